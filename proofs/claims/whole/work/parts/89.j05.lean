/-! ===== behind, home, quiet, left ===== -/
/-- days until t is nought, c at most, D have passed -/
def wait (t : (Nat → Nat → Int32) → Int32) (n : Nat) : Nat → Nat → (Nat → Nat → Int32) → Int32 × (Nat → Nat → Int32)
  | 0, _, C => (-1, C)
  | c + 1, D, C => if t C = 0 then (nI D, C) else wait t n c (D + 1) (dayI C 9 n)
section Cal
variable {F : jx_F} {lv : Nat} {I I1 I2 C : Nat → Nat → Int32} {J : Nat → Nat → Int64} {n : Nat}
theorem i64_60 : (60 : Int64) = (60 : Int32).toInt64 := rfl
theorem lay_in : rn F (lv + 1) 143 [.ref 73] (HH I J) = some (none, HH (upF I 74 222 (fun j => I 74 (0 + j)) 17) J) := by
  have c := mcopy_in (F := F) (lv := lv) (I := I) (J := J) (f := 0) (t := 222) (N := 17) (by decide) (by decide) (by decide)
  rw [show nI 0 = (0 : Int32) from rfl, show nI 222 = (222 : Int32) from rfl, show nI 17 = (17 : Int32) from rfl] at c
  simp only [e_Model_layTried, s_Model_layTried_0, s_Model_layTried_1, s_Model_layTried_2, s_Model_layTried_5, s_Model_layTried_7 rcv_73, s_Model_layTried_10, c, Option.bind_some, Option.toList_some, Option.toList_none, List.cons_append, List.nil_append, i10, i01, if_false, if_true, nI_add, nI_1]
theorem lay_rw (h : Rw C 5 I 0 n) (e : I1 74 = I 74) : Rw (takeI C 9 5) 9 (upF I1 74 222 (fun j => I1 74 (0 + j)) 17) 222 n := by
  refine rw_cp h cp_take (Nat.le_refl _) ?_ ?_
  · intro y h1 h2; rw [upF_out (by omega), e]
  · intro k hk; rw [upF_in hk, e]
theorem kp_try {g : Nat → Int32} (hc : ∀ x, x < 9 ∨ 12 < x → I1 x = I x) (hf : Fr (upF I1 74 222 g 17) I2 222) : Kp I I2 := by
  have e : ∀ x, x ≠ 74 → x ≠ 92 → (x < 9 ∨ 12 < x) → I2 x = I x := fun x h1 h2 h3 => by rw [hf.1 x h1 h2, upF_ne h1, hc x h3]
  refine ⟨fun x h1 h2 h3 h4 h5 h6 => e x h3 (by omega) (by omega), ?_, ?_, ?_, ?_, ?_⟩
  · rw [e 13 (by decide) (by decide) (by decide)]
  · rw [e 73 (by decide) (by decide) (by decide)]
  · rw [e 73 (by decide) (by decide) (by decide)]
  · rw [e 73 (by decide) (by decide) (by decide)]
  · intro y hy; rw [hf.2 y (by omega) (by omega), upF_out (by omega), hc 74 (by decide)]
theorem try_c {D : Nat} : ∀ x, x < 9 ∨ 12 < x → daysI (takeI I 9 5) 9 n D x = I x := fun x h => by
  rw [days_ne (by omega) (by omega), take_ne (by omega) (by omega) (by omega) (by omega)]
theorem st_behind (h : Inv I J) (m k : Int32) : Alk F lv 75 144 [.int m, .int k] I J := by
  obtain ⟨n, ⟨hR, d, hd, ed⟩, _, _⟩ := h.2.2.2.2.2
  have h4 := hR.ms
  have hM := hR.wf.mn
  rcases man_cases h4 m with q | ⟨j, hj, rfl⟩
  · refine ⟨-2, I, I, J, ?_, ?_, h⟩
    · simp only [e_Main_behind, s_Main_behind_0, s_Main_behind_1, s_Main_behind_4, s_Main_behind_5 (ar_rcv ar_5), s_Main_behind_8, s_Main_behind_11, s_Main_behind_13, s_Main_behind_14, s_Main_behind_15, s_Main_behind_18, s_Main_behind_19, s_Main_behind_21, s_Main_behind_24, s_Main_behind_26, s_Main_behind_27, s_Main_behind_28, s_Main_behind_31, s_Main_behind_32, s_Main_behind_38, s_Main_behind_39, s_Main_behind_42, s_Main_behind_46, s_Main_behind_47, s_Main_behind_50, s_Main_behind_53, s_Main_behind_54, s_Main_behind_55, g_0_1, has_no ar_5 hM q, Option.bind_some, Option.toList_some, Option.toList_none, List.cons_append, List.nil_append, i10, i01, if_false, if_true, nI_add, nI_1]
    · simp only [e_Model_behind, s_Model_behind_0, s_Model_behind_1, s_Model_behind_2 rcv_73, s_Model_behind_5, s_Model_behind_8, s_Model_behind_10, s_Model_behind_11, s_Model_behind_12, s_Model_behind_13, s_Model_behind_14, s_Model_behind_17, s_Model_behind_20, s_Model_behind_23, s_Model_behind_25, s_Model_behind_26, s_Model_behind_27 rcv_73, s_Model_behind_30, s_Model_behind_31, s_Model_behind_34, s_Model_behind_35 rcv_73, s_Model_behind_38, s_Model_behind_39, s_Model_behind_42, s_Model_behind_45, s_Model_behind_46, s_Model_behind_47, s_Model_behind_48, isMan_no hR.nn h4 q, Option.bind_some, Option.toList_some, Option.toList_none, List.cons_append, List.nil_append, i10, i01, if_false, if_true, nI_add, nI_1]
  have c1 := has_in (F := F) (lv := lv + 9) (J := J) ar_5 hM hj
  have c2 : ∀ I1 : Nat → Nat → Int32, I1 74 = I 74 → rn F (lv + 8 + 1) 125 [.ref 73, .int (nI j)] (HH I1 J) = some (some (.int 1), HH I1 J) := fun I1 e => isMan_yes (by rw [e]; exact hR.nn) h4 hj
  by_cases q1 : k < 0
  · refine ⟨-3, I, I, J, ?_, ?_, h⟩
    · simp only [e_Main_behind, s_Main_behind_0, s_Main_behind_1, s_Main_behind_4, s_Main_behind_5 (ar_rcv ar_5), s_Main_behind_8, s_Main_behind_11, s_Main_behind_13, s_Main_behind_14, s_Main_behind_15, s_Main_behind_18, s_Main_behind_19, s_Main_behind_21, s_Main_behind_24, s_Main_behind_26, s_Main_behind_27, s_Main_behind_28, s_Main_behind_31, s_Main_behind_32, s_Main_behind_38, s_Main_behind_39, s_Main_behind_42, s_Main_behind_46, s_Main_behind_47, s_Main_behind_50, s_Main_behind_53, s_Main_behind_54, s_Main_behind_55, g_0_1, c1, Option.bind_some, Option.toList_some, Option.toList_none, List.cons_append, List.nil_append, i10, i01, if_false, if_true, nI_add, nI_1, if_pos q1]
    · simp only [e_Model_behind, s_Model_behind_0, s_Model_behind_1, s_Model_behind_2 rcv_73, s_Model_behind_5, s_Model_behind_8, s_Model_behind_10, s_Model_behind_11, s_Model_behind_12, s_Model_behind_13, s_Model_behind_14, s_Model_behind_17, s_Model_behind_20, s_Model_behind_23, s_Model_behind_25, s_Model_behind_26, s_Model_behind_27 rcv_73, s_Model_behind_30, s_Model_behind_31, s_Model_behind_34, s_Model_behind_35 rcv_73, s_Model_behind_38, s_Model_behind_39, s_Model_behind_42, s_Model_behind_45, s_Model_behind_46, s_Model_behind_47, s_Model_behind_48, c2 I rfl, Option.bind_some, Option.toList_some, Option.toList_none, List.cons_append, List.nil_append, i10, i01, if_false, if_true, nI_add, nI_1, i64_0, i64_60, in_int, if_pos q1]
  by_cases q2 : (60 : Int32) < k
  · refine ⟨-3, I, I, J, ?_, ?_, h⟩
    · simp only [e_Main_behind, s_Main_behind_0, s_Main_behind_1, s_Main_behind_4, s_Main_behind_5 (ar_rcv ar_5), s_Main_behind_8, s_Main_behind_11, s_Main_behind_13, s_Main_behind_14, s_Main_behind_15, s_Main_behind_18, s_Main_behind_19, s_Main_behind_21, s_Main_behind_24, s_Main_behind_26, s_Main_behind_27, s_Main_behind_28, s_Main_behind_31, s_Main_behind_32, s_Main_behind_38, s_Main_behind_39, s_Main_behind_42, s_Main_behind_46, s_Main_behind_47, s_Main_behind_50, s_Main_behind_53, s_Main_behind_54, s_Main_behind_55, g_0_1, c1, Option.bind_some, Option.toList_some, Option.toList_none, List.cons_append, List.nil_append, i10, i01, if_false, if_true, nI_add, nI_1, ifle, if_neg q1, if_pos q2]
    · simp only [e_Model_behind, s_Model_behind_0, s_Model_behind_1, s_Model_behind_2 rcv_73, s_Model_behind_5, s_Model_behind_8, s_Model_behind_10, s_Model_behind_11, s_Model_behind_12, s_Model_behind_13, s_Model_behind_14, s_Model_behind_17, s_Model_behind_20, s_Model_behind_23, s_Model_behind_25, s_Model_behind_26, s_Model_behind_27 rcv_73, s_Model_behind_30, s_Model_behind_31, s_Model_behind_34, s_Model_behind_35 rcv_73, s_Model_behind_38, s_Model_behind_39, s_Model_behind_42, s_Model_behind_45, s_Model_behind_46, s_Model_behind_47, s_Model_behind_48, c2 I rfl, Option.bind_some, Option.toList_some, Option.toList_none, List.cons_append, List.nil_append, i10, i01, if_false, if_true, nI_add, nI_1, i64_0, i64_60, in_int, if_neg q1, if_pos q2]
  obtain ⟨D, hD, rfl⟩ : ∃ j : Nat, j ≤ 60 ∧ k = nI j := nI_of2 (M := 60) rfl q1 (Int32.not_lt.1 q2)
  have hW : Wf (takeI I 9 5) 9 n := cp_wf hR.wf cp_take
  have hc := try_c (I := I) (n := n) (D := D)
  have run1 : rn F (lv + 10) 75 [.ref 0, .int (nI j), .int (nI D)] (HH I J) = some (some (.int (daysI (takeI I 9 5) 9 n D 11 j)), HH (daysI (takeI I 9 5) 9 n D) J) := by
    simp only [e_Main_behind, s_Main_behind_0, s_Main_behind_1, s_Main_behind_4, s_Main_behind_5 (ar_rcv ar_5), s_Main_behind_8, s_Main_behind_11, s_Main_behind_13, s_Main_behind_14, s_Main_behind_15, s_Main_behind_18, s_Main_behind_19, s_Main_behind_21, s_Main_behind_24, s_Main_behind_26, s_Main_behind_27, s_Main_behind_28, s_Main_behind_31, s_Main_behind_32, s_Main_behind_38, s_Main_behind_39, s_Main_behind_42, s_Main_behind_46, s_Main_behind_47, s_Main_behind_50, s_Main_behind_53, s_Main_behind_54, s_Main_behind_55, g_0_1, g_0_2, c1, Option.bind_some, Option.toList_some, Option.toList_none, List.cons_append, List.nil_append, i10, i01, if_false, if_true, nI_add, nI_1, ifle, if_neg q1, if_neg q2, s_Main_behind_35 (ar_rcv ar_9), s_Main_behind_43 (ar_rcv ar_9), take_in ar_9 ar_5 (show 5 + 3 < 9 ∨ 9 + 3 < 5 by decide), pass_in (show D < 2 ^ 31 by omega) ar_9 hW, g_9_1, gi_11, at_in (show j < 8 by omega) (show 8 < 2 ^ 31 by decide), nI_clamp (show j < 2 ^ 31 by omega)]
  have hL := lay_rw (I1 := daysI (takeI I 9 5) 9 n D) hR (hc 74 (by decide))
  have ed' : takeI I 9 5 9 4 = nI d := by rw [(cp_take (C := I) (a := 9) (b := 5)).2.1]; exact ed
  obtain ⟨I2, e2, r2, f2⟩ := mdays_in (F := F) (lv := lv + 6) (J := J) (D := D) hL (by omega) ed' (by omega)
  have e222 : (222 : Int32) = nI 222 := rfl
  refine ⟨daysI (takeI I 9 5) 9 n D 11 j, _, I2, J, run1, ?_, inv_kp h (kp_try hc f2)⟩
  simp only [e_Model_behind, s_Model_behind_0, s_Model_behind_1, s_Model_behind_2 rcv_73, s_Model_behind_5, s_Model_behind_8, s_Model_behind_10, s_Model_behind_11, s_Model_behind_12, s_Model_behind_13, s_Model_behind_14, s_Model_behind_17, s_Model_behind_20, s_Model_behind_23, s_Model_behind_25, s_Model_behind_26, s_Model_behind_27 rcv_73, s_Model_behind_30, s_Model_behind_31, s_Model_behind_34, s_Model_behind_35 rcv_73, s_Model_behind_38, s_Model_behind_39, s_Model_behind_42, s_Model_behind_45, s_Model_behind_46, s_Model_behind_47, s_Model_behind_48, c2 _ (hc 74 (by decide)), Option.bind_some, Option.toList_some, Option.toList_none, List.cons_append, List.nil_append, i10, i01, if_false, if_true, nI_add, nI_1, i64_0, i64_60, in_int, if_neg q1, if_neg q2, lay_in, e222, e2, g_73_0, g74 (show 222 + j < 239 by omega), r2.bt hj]
/-! home -/
theorem wait_wf {t : (Nat → Nat → Int32) → Int32} : ∀ (c D : Nat) (C : Nat → Nat → Int32), ∀ x, x < 9 ∨ 12 < x → (wait t n c D C).2 x = C x := by
  intro c
  induction c with
  | zero => intro D C x _; rfl
  | succ c ih =>
    intro D C x hx
    unfold wait
    split
    · rfl
    · rw [ih (D + 1) _ x hx, day_ne (by omega) (by omega)]
theorem home_loop {j : Nat} (hj : j < 2 * n) : ∀ (c D : Nat) (C : Nat → Nat → Int32), D + c = 61 → Wf C 9 n → ev F (lv + 5) jm_Main_home 27 [.ref 0, .int (nI j), .int (nI D)] [] (HH C J) = some (some (.int (wait (fun C => C 11 j) n c D C).1), HH (wait (fun C => C 11 j) n c D C).2 J) := by
  have e60 : (60 : Int32) = nI 60 := rfl
  intro c
  induction c with
  | zero =>
    intro D C hD hw
    obtain rfl : D = 61 := by omega
    rw [s_Main_home_27]
    simp only [s_Main_home_28, s_Main_home_30, e60, if_pos (nI_lt (show 60 < 61 by decide) (show 61 < 2 ^ 31 by decide)), s_Main_home_59, s_Main_home_60, wait]
  | succ c ih =>
    intro D C hD hw
    rw [s_Main_home_27]
    simp only [s_Main_home_28, s_Main_home_30, e60, if_neg (nI_nlt (show D ≤ 60 by omega) (show 60 < 2 ^ 31 by decide)), s_Main_home_33, s_Main_home_34, s_Main_home_37, s_Main_home_38 (ar_rcv ar_9), g_0_2, home_in ar_9 hw.mn hj, wait]
    by_cases q : C 11 j = 0
    · simp only [q, if_true, Option.bind_some, Option.toList_some, Option.toList_none, List.cons_append, List.nil_append, i10, i01, if_false, if_true, nI_add, nI_1, s_Main_home_41, s_Main_home_44, s_Main_home_45]
    · simp only [q, if_false, Option.bind_some, Option.toList_some, Option.toList_none, List.cons_append, List.nil_append, i10, i01, if_false, if_true, nI_add, nI_1, s_Main_home_41, s_Main_home_46, s_Main_home_47, s_Main_home_50 (ar_rcv ar_9), g_0_2, passDay_in ar_9 hw, s_Main_home_53, s_Main_home_56]
      exact ih (D + 1) _ (by omega) (wf_day hw)
theorem mhome_loop {j : Nat} (hj : j < 2 * n) : ∀ (c D d : Nat) (C I : Nat → Nat → Int32), D + c = 61 → Rw C 9 I 222 n → C 9 4 = nI d → d + c < 2 ^ 20 → ∃ I2, ev F (lv + 4) jm_Model_home 17 [.ref 73, .int (nI j), .int (nI D)] [] (HH I J) = some (some (.int (wait (fun C => C 11 j) n c D C).1), HH I2 J) ∧ Fr I I2 222 := by
  have e61 : (61 : Int32) = nI 61 := rfl
  have e222 : (222 : Int32) = nI 222 := rfl
  intro c
  induction c with
  | zero =>
    intro D d C I hD hr hd hd'
    obtain rfl : D = 61 := by omega
    refine ⟨I, ?_, Fr.refl⟩
    rw [s_Model_home_17]
    simp only [s_Model_home_18, s_Model_home_20, e61, if_pos (nI_le (Nat.le_refl 61) (show 61 < 2 ^ 31 by decide)), s_Model_home_50, s_Model_home_51, wait]
  | succ c ih =>
    intro D d C I hD hr hd hd'
    obtain ⟨bb, hb, eb⟩ := hr.wf.bt j hj
    have eb' : C 11 j = nI bb := eb
    have o1 := out_in (F := F) (lv := lv + 3) (J := J) hr hj
    rw [show (9 + 2 : Nat) = 11 from rfl, eb'] at o1
    simp only [nI_le0 (show bb < 2 ^ 31 by omega)] at o1
    rw [s_Model_home_17]
    simp only [s_Model_home_18, s_Model_home_20, e61, if_neg (nI_ge (show D < 61 by omega) (show 61 < 2 ^ 31 by decide)), s_Model_home_23, s_Model_home_24, s_Model_home_27, s_Model_home_28 rcv_73, e222, o1, wait, eb']
    by_cases q : nI bb = (0 : Int32)
    · refine ⟨I, ?_, Fr.refl⟩
      simp only [if_pos q, Option.bind_some, Option.toList_some, Option.toList_none, List.cons_append, List.nil_append, i10, i01, if_false, if_true, nI_add, nI_1, s_Model_home_31, s_Model_home_34, s_Model_home_35]
    · obtain ⟨I2, e2, r2, f2⟩ := mdays_in (F := F) (lv := lv) (J := J) (D := 1) hr (by omega) hd (by omega)
      obtain ⟨I3, e3, f3⟩ := ih (D + 1) (d + 1) (dayI C 9 n) I2 (by omega) r2 (by rw [day_d, hd, nI_1]) (by omega)
      refine ⟨I3, ?_, f2.trans f3⟩
      rw [show nI 1 = (1 : Int32) from rfl] at e2
      simp only [if_neg q, Option.bind_some, Option.toList_some, Option.toList_none, List.cons_append, List.nil_append, i10, i01, if_false, if_true, nI_add, nI_1, s_Model_home_31, s_Model_home_36, s_Model_home_37, s_Model_home_40, s_Model_home_41 rcv_73, e222, e2, s_Model_home_44, s_Model_home_47]
      exact e3
theorem st_home (h : Inv I J) (m : Int32) : Alk F lv 76 145 [.int m] I J := by
  obtain ⟨n, ⟨hR, d, hd, ed⟩, _, _⟩ := h.2.2.2.2.2
  have h4 := hR.ms
  have hM := hR.wf.mn
  rcases man_cases h4 m with q | ⟨j, hj, rfl⟩
  · refine ⟨-2, I, I, J, ?_, ?_, h⟩
    · simp only [e_Main_home, s_Main_home_0, s_Main_home_1, s_Main_home_4, s_Main_home_5 (ar_rcv ar_5), s_Main_home_8, s_Main_home_11, s_Main_home_13, g_0_1, has_no ar_5 hM q, Option.bind_some, Option.toList_some, Option.toList_none, List.cons_append, List.nil_append, i10, i01, if_false, if_true, nI_add, nI_1]
    · simp only [e_Model_home, s_Model_home_0, s_Model_home_1, s_Model_home_2 rcv_73, s_Model_home_5, s_Model_home_8, s_Model_home_10, isMan_no hR.nn h4 q, Option.bind_some, Option.toList_some, Option.toList_none, List.cons_append, List.nil_append, i10, i01, if_false, if_true, nI_add, nI_1]
  have c1 := has_in (F := F) (lv := lv + 9) (J := J) ar_5 hM hj
  have hW : Wf (takeI I 9 5) 9 n := cp_wf hR.wf cp_take
  have l1 := home_loop (F := F) (lv := lv + 5) (J := J) hj 61 0 (takeI I 9 5) (by omega) hW
  have hc : ∀ x, x < 9 ∨ 12 < x → (wait (fun C => C 11 j) n 61 0 (takeI I 9 5)).2 x = I x := fun x hx => by rw [wait_wf 61 0 _ x hx, take_ne (by omega) (by omega) (by omega) (by omega)]
  have hL := lay_rw (I1 := (wait (fun C => C 11 j) n 61 0 (takeI I 9 5)).2) hR (hc 74 (by decide))
  have ed' : takeI I 9 5 9 4 = nI d := by rw [(cp_take (C := I) (a := 9) (b := 5)).2.1]; exact ed
  obtain ⟨I2, e2, f2⟩ := mhome_loop (F := F) (lv := lv + 6) (J := J) hj 61 0 d _ _ (by omega) hL ed' (by omega)
  have c2 := isMan_yes (F := F) (lv := lv + 8) (J := J) (I := (wait (fun C => C 11 j) n 61 0 (takeI I 9 5)).2) (show (wait (fun C => C 11 j) n 61 0 (takeI I 9 5)).2 74 17 = nI n by rw [hc 74 (by decide)]; exact hR.nn) h4 hj
  refine ⟨(wait (fun C => C 11 j) n 61 0 (takeI I 9 5)).1, (wait (fun C => C 11 j) n 61 0 (takeI I 9 5)).2, I2, J, ?_, ?_, inv_kp h (kp_try hc f2)⟩
  · simp only [e_Main_home, s_Main_home_0, s_Main_home_1, s_Main_home_4, s_Main_home_5 (ar_rcv ar_5), s_Main_home_8, g_0_1, g_0_2, c1, Option.bind_some, Option.toList_some, Option.toList_none, List.cons_append, List.nil_append, i10, i01, if_false, if_true, nI_add, nI_1, s_Main_home_14, s_Main_home_15, s_Main_home_18, s_Main_home_19, s_Main_home_22 (ar_rcv ar_9), take_in ar_9 ar_5 (show 5 + 3 < 9 ∨ 9 + 3 < 5 by decide), s_Main_home_25, s_Main_home_26]
    exact l1
  · simp only [e_Model_home, s_Model_home_0, s_Model_home_1, s_Model_home_2 rcv_73, s_Model_home_5, c2, Option.bind_some, Option.toList_some, Option.toList_none, List.cons_append, List.nil_append, i10, i01, if_false, if_true, nI_add, nI_1, s_Model_home_11, s_Model_home_12 rcv_73, lay_in, s_Model_home_15, s_Model_home_16]
    exact e2
/-! quiet -/
theorem quiet_loop : ∀ (c D : Nat) (C : Nat → Nat → Int32), D + c = 61 → Wf C 9 n → ev F (lv + 5) jm_Main_quiet 13 [.ref 0, .int (nI D)] [] (HH C J) = some (some (.int (wait (fun C => fold2 (aimN C 9 n) 0 (2 * n) 0) n c D C).1), HH (wait (fun C => fold2 (aimN C 9 n) 0 (2 * n) 0) n c D C).2 J) := by
  have e60 : (60 : Int32) = nI 60 := rfl
  intro c
  induction c with
  | zero =>
    intro D C hD hw
    obtain rfl : D = 61 := by omega
    rw [s_Main_quiet_13]
    simp only [s_Main_quiet_14, s_Main_quiet_16, e60, if_pos (nI_lt (show 60 < 61 by decide) (show 61 < 2 ^ 31 by decide)), s_Main_quiet_44, s_Main_quiet_45, wait]
  | succ c ih =>
    intro D C hD hw
    rw [s_Main_quiet_13]
    simp only [s_Main_quiet_14, s_Main_quiet_16, e60, if_neg (nI_nlt (show D ≤ 60 by omega) (show 60 < 2 ^ 31 by decide)), s_Main_quiet_19, s_Main_quiet_20, s_Main_quiet_23 (ar_rcv ar_9), g_0_2, aims_in ar_9 hw.mn, wait, Option.bind_some, Option.toList_some, Option.toList_none, List.cons_append, List.nil_append, i10, i01, if_false, if_true, nI_add, nI_1, s_Main_quiet_26]
    by_cases q : fold2 (aimN C 9 n) 0 (2 * n) 0 = 0
    · simp only [if_pos q, s_Main_quiet_29, s_Main_quiet_30]
    · simp only [if_neg q, Option.bind_some, Option.toList_some, Option.toList_none, List.cons_append, List.nil_append, i10, i01, if_false, if_true, nI_add, nI_1, s_Main_quiet_31, s_Main_quiet_32, s_Main_quiet_35 (ar_rcv ar_9), g_0_2, passDay_in ar_9 hw, s_Main_quiet_38, s_Main_quiet_41]
      exact ih (D + 1) _ (by omega) (wf_day hw)
theorem mquiet_loop : ∀ (c D d : Nat) (C I : Nat → Nat → Int32), D + c = 61 → Rw C 9 I 222 n → C 9 4 = nI d → d + c < 2 ^ 20 → ∃ I2, ev F (lv + 4) jm_Model_quiet 6 [.ref 73, .int (nI D)] [] (HH I J) = some (some (.int (wait (fun C => fold2 (aimN C 9 n) 0 (2 * n) 0) n c D C).1), HH I2 J) ∧ Fr I I2 222 := by
  have e61 : (61 : Int32) = nI 61 := rfl
  have e222 : (222 : Int32) = nI 222 := rfl
  intro c
  induction c with
  | zero =>
    intro D d C I hD hr hd hd'
    obtain rfl : D = 61 := by omega
    refine ⟨I, ?_, Fr.refl⟩
    rw [s_Model_quiet_6]
    simp only [s_Model_quiet_7, s_Model_quiet_9, e61, if_pos (nI_le (Nat.le_refl 61) (show 61 < 2 ^ 31 by decide)), s_Model_quiet_38, s_Model_quiet_39, wait]
  | succ c ih =>
    intro D d C I hD hr hd hd'
    have o1 := mams_in (F := F) (lv := lv) (J := J) hr hd (by omega)
    rw [s_Model_quiet_6]
    simp only [s_Model_quiet_7, s_Model_quiet_9, e61, if_neg (nI_ge (show D < 61 by omega) (show 61 < 2 ^ 31 by decide)), s_Model_quiet_12, s_Model_quiet_13, s_Model_quiet_16 rcv_73, e222, o1, wait, Option.bind_some, Option.toList_some, Option.toList_none, List.cons_append, List.nil_append, i10, i01, if_false, if_true, nI_add, nI_1, s_Model_quiet_19]
    by_cases q : fold2 (aimN C 9 n) 0 (2 * n) 0 = 0
    · refine ⟨I, ?_, Fr.refl⟩
      simp only [if_pos q, s_Model_quiet_22, s_Model_quiet_23]
    · obtain ⟨I2, e2, r2, f2⟩ := mdays_in (F := F) (lv := lv) (J := J) (D := 1) hr (by omega) hd (by omega)
      obtain ⟨I3, e3, f3⟩ := ih (D + 1) (d + 1) (dayI C 9 n) I2 (by omega) r2 (by rw [day_d, hd, nI_1]) (by omega)
      refine ⟨I3, ?_, f2.trans f3⟩
      rw [show nI 1 = (1 : Int32) from rfl] at e2
      simp only [if_neg q, Option.bind_some, Option.toList_some, Option.toList_none, List.cons_append, List.nil_append, i10, i01, if_false, if_true, nI_add, nI_1, s_Model_quiet_24, s_Model_quiet_25, s_Model_quiet_28, s_Model_quiet_29 rcv_73, e222, e2, s_Model_quiet_32, s_Model_quiet_35]
      exact e3
theorem st_quiet (h : Inv I J) : Alk F lv 77 147 [] I J := by
  obtain ⟨n, ⟨hR, d, hd, ed⟩, _, _⟩ := h.2.2.2.2.2
  have h4 := hR.ms
  have hM := hR.wf.mn
  have hW : Wf (takeI I 9 5) 9 n := cp_wf hR.wf cp_take
  have l1 := quiet_loop (F := F) (lv := lv + 5) (J := J) (n := n) 61 0 (takeI I 9 5) (by omega) hW
  have hc : ∀ x, x < 9 ∨ 12 < x → (wait (fun C => fold2 (aimN C 9 n) 0 (2 * n) 0) n 61 0 (takeI I 9 5)).2 x = I x := fun x hx => by rw [wait_wf 61 0 _ x hx, take_ne (by omega) (by omega) (by omega) (by omega)]
  have hL := lay_rw (I1 := (wait (fun C => fold2 (aimN C 9 n) 0 (2 * n) 0) n 61 0 (takeI I 9 5)).2) hR (hc 74 (by decide))
  have ed' : takeI I 9 5 9 4 = nI d := by rw [(cp_take (C := I) (a := 9) (b := 5)).2.1]; exact ed
  obtain ⟨I2, e2, f2⟩ := mquiet_loop (F := F) (lv := lv + 6) (J := J) 61 0 d _ _ (by omega) hL ed' (by omega)
  refine ⟨(wait (fun C => fold2 (aimN C 9 n) 0 (2 * n) 0) n 61 0 (takeI I 9 5)).1, (wait (fun C => fold2 (aimN C 9 n) 0 (2 * n) 0) n 61 0 (takeI I 9 5)).2, I2, J, ?_, ?_, inv_kp h (kp_try hc f2)⟩
  · simp only [e_Main_quiet, g_0_1, g_0_2, Option.bind_some, Option.toList_some, Option.toList_none, List.cons_append, List.nil_append, i10, i01, if_false, if_true, nI_add, nI_1, s_Main_quiet_0, s_Main_quiet_1, s_Main_quiet_4, s_Main_quiet_5, s_Main_quiet_8 (ar_rcv ar_9), take_in ar_9 ar_5 (show 5 + 3 < 9 ∨ 9 + 3 < 5 by decide), s_Main_quiet_11, s_Main_quiet_12]
    exact l1
  · simp only [e_Model_quiet, Option.bind_some, Option.toList_some, Option.toList_none, List.cons_append, List.nil_append, i10, i01, if_false, if_true, nI_add, nI_1, s_Model_quiet_0, s_Model_quiet_1 rcv_73, lay_in, s_Model_quiet_4, s_Model_quiet_5]
    exact e2
end Cal
