/-! ===== undo, keep, back ===== -/
section Cal
variable {F : jx_F} {lv : Nat} {I I1 I3 : Nat → Nat → Int32} {J : Nat → Nat → Int64} {n : Nat}
theorem rg_old {nx num k : Nat} (hx : nx < 8) (hn : num ≤ 8) (hk : k + 1 < num) : rg (ringP nx) (num - 1) k = rg nx num k := by
  unfold rg ringP
  split <;> omega
theorem rg_last {nx num : Nat} (hx : nx < 8) (hn : num ≤ 8) (h0 : 0 < num) : rg nx num (num - 1) = ringP nx := by
  unfold rg ringP
  split <;> omega
theorem ar_k {k : Nat} (h : k < 2) : Ar (54 + 4 * k) := by
  match k, h with
  | 0, _ => exact ar_54
  | 1, _ => exact ar_58
theorem st_undo (h : Inv I J) : Alk F lv 72 140 [] I J := by
  obtain ⟨n, hN, ⟨nx, num, hx, hu, p1, p2, p3, hp⟩, hK⟩ := h.2.2.2.2.2
  by_cases q : num = 0
  · subst q
    refine ⟨-4, I, I, J, ?_, ?_, h⟩
    · simp only [e_Main_undo, s_Main_undo_0, s_Main_undo_1, s_Main_undo_4, s_Main_undo_5, s_Main_undo_8 rcv_19, s_Main_undo_11, s_Main_undo_14, s_Main_undo_15, s_Main_undo_18, s_Main_undo_21, s_Main_undo_24, s_Main_undo_26, g_0_1, g_0_4, res_0 (show I 19 2 = 0 by rw [p2]; rfl), Option.bind_some, Option.toList_some, Option.toList_none, List.cons_append, List.nil_append, i10, i01, if_false, if_true, nI_add, nI_1]
    · simp only [e_Model_undo, s_Model_undo_0, s_Model_undo_1, s_Model_undo_4, s_Model_undo_7, s_Model_undo_9, s_Model_undo_10, s_Model_undo_11, s_Model_undo_12, s_Model_undo_15, s_Model_undo_16, s_Model_undo_17, s_Model_undo_20, s_Model_undo_21, s_Model_undo_23, s_Model_undo_25, s_Model_undo_26, s_Model_undo_29, s_Model_undo_30, s_Model_undo_31, s_Model_undo_32, s_Model_undo_34 rcv_73, s_Model_undo_37, s_Model_undo_38, s_Model_undo_41, g_73_1, p3, if_pos (show nI 0 = (0 : Int32) from rfl)]
  have hP : ringP nx < 8 := by unfold ringP; split <;> omega
  have ep := rg_last hx hu (by omega)
  have e52 : (52 : Int32) = nI 52 := rfl
  have e17 : (17 : Int32) = nI 17 := rfl
  have r := res_in (F := F) (lv := lv + 7) (I := I) (J := J) ar_5 (show 5 + 3 < 19 by decide) hx (show 0 < num by omega) hu p1 p2
  have f1 : ∀ x, x ≠ 19 → ¬ (5 ≤ x ∧ x ≤ 8) → resI I 5 nx num x = I x := fun x a b => by
    unfold resI; rw [take_ne (by omega) (by omega) (by omega) (by omega), up2_ne a, up2_ne a]
  have f2 : resI I 5 nx num 19 1 = nI (ringP nx) := by unfold resI; rw [take_ne (by decide) (by decide) (by decide) (by decide), up2_eq, pk_un (by decide), up2_eq, pk_us]
  have f3 : resI I 5 nx num 19 2 = nI (num - 1) := by unfold resI; rw [take_ne (by decide) (by decide) (by decide) (by decide), up2_eq, pk_us]
  have f4 : CpA I (21 + 4 * ringP nx) (resI I 5 nx num) 5 := by
    unfold resI
    refine cp_trans (cp_same ?_ ?_ ?_ ?_) cp_take
    · rw [up2_ne (by omega), up2_ne (by omega)]
    · rw [up2_ne (by omega), up2_ne (by omega)]
    · rw [up2_ne (by omega), up2_ne (by omega)]
    · rw [up2_ne (by omega), up2_ne (by omega)]
  have h73 : resI I 5 nx num 73 = I 73 := f1 73 (by decide) (by decide)
  have h74 : resI I 5 nx num 74 = I 74 := f1 74 (by decide) (by decide)
  have run1 : rn F (lv + 10) 72 [.ref 0] (HH I J) = some (some (.int (nI (num - 1))), HH (resI I 5 nx num) J) := by
    simp only [e_Main_undo, s_Main_undo_0, s_Main_undo_1, s_Main_undo_4, s_Main_undo_5, s_Main_undo_8 rcv_19, s_Main_undo_11, s_Main_undo_14, s_Main_undo_15, s_Main_undo_18, s_Main_undo_21, s_Main_undo_24, s_Main_undo_26, g_0_1, g_0_4, r, Option.bind_some, Option.toList_some, Option.toList_none, List.cons_append, List.nil_append, i10, i01, if_false, if_true, nI_add, nI_1, g_19_2, f3]
  generalize resI I 5 nx num = I1 at run1 f1 f2 f3 f4 h73 h74
  have c := mcopy_in (F := F) (lv := lv + 9) (I := up2 I1 73 1 (nI (num - 1))) (J := J) (f := 52 + 17 * (num - 1)) (t := 0) (N := 17) (by omega) (by omega) (by omega)
  rw [show nI 0 = (0 : Int32) from rfl] at c
  have em : (52 : Int32) + 17 * nI (num - 1) = nI (52 + 17 * (num - 1)) := by rw [show (17 : Int32) * nI (num - 1) = nI (17 * (num - 1)) from pk_mul 17 (num - 1), e52, nI_add]
  have p3' : I1 73 1 = nI num := by rw [h73]; exact p3
  refine ⟨nI (num - 1), I1, upF (up2 I1 73 1 (nI (num - 1))) 74 0 (fun j => up2 I1 73 1 (nI (num - 1)) 74 (52 + 17 * (num - 1) + j)) 17, J, run1, ?_, ?_⟩
  · simp only [e_Model_undo, s_Model_undo_0, s_Model_undo_1, s_Model_undo_4, s_Model_undo_7, s_Model_undo_9, s_Model_undo_10, s_Model_undo_11, s_Model_undo_12, s_Model_undo_15, s_Model_undo_16, s_Model_undo_17, s_Model_undo_20, s_Model_undo_21, s_Model_undo_23, s_Model_undo_25, s_Model_undo_26, s_Model_undo_29, s_Model_undo_30, s_Model_undo_31, s_Model_undo_32, s_Model_undo_37, s_Model_undo_38, s_Model_undo_41, g_73_1, p3', if_neg (nI_ne0 (show 0 < num by omega) (show num < 2 ^ 31 by omega)), show nI num - 1 = nI (num - 1) from pk_sub (show 1 ≤ num by omega), p_73_1, up2_eq, pk_us, em, s_Model_undo_34 rcv_73]
    rw [e17, c]
    simp only [Option.bind_some, Option.toList_some, Option.toList_none, List.cons_append, List.nil_append, i10, i01, if_false, if_true, nI_add, nI_1, s_Model_undo_0, s_Model_undo_1, s_Model_undo_4, s_Model_undo_7, s_Model_undo_9, s_Model_undo_10, s_Model_undo_11, s_Model_undo_12, s_Model_undo_15, s_Model_undo_16, s_Model_undo_17, s_Model_undo_20, s_Model_undo_21, s_Model_undo_23, s_Model_undo_25, s_Model_undo_26, s_Model_undo_29, s_Model_undo_30, s_Model_undo_31, s_Model_undo_32, s_Model_undo_37, s_Model_undo_38, s_Model_undo_41, g_73_1, upF_ne (show 73 ≠ 74 by decide), up2_eq, pk_us]
  · have c1 : ∀ x, x ≠ 73 → x ≠ 74 → upF (up2 I1 73 1 (nI (num - 1))) 74 0 (fun j => up2 I1 73 1 (nI (num - 1)) 74 (52 + 17 * (num - 1) + j)) 17 x = I1 x := fun x a b => by rw [upF_ne b, up2_ne a]
    have c73 : ∀ y, y ≠ 1 → upF (up2 I1 73 1 (nI (num - 1))) 74 0 (fun j => up2 I1 73 1 (nI (num - 1)) 74 (52 + 17 * (num - 1) + j)) 17 73 y = I 73 y := fun y a => by rw [upF_ne (by decide), up2_eq, pk_un a, h73]
    have c731 : upF (up2 I1 73 1 (nI (num - 1))) 74 0 (fun j => up2 I1 73 1 (nI (num - 1)) 74 (52 + 17 * (num - 1) + j)) 17 73 1 = nI (num - 1) := by rw [upF_ne (by decide), up2_eq, pk_us]
    have c74 : ∀ y, 17 ≤ y → upF (up2 I1 73 1 (nI (num - 1))) 74 0 (fun j => up2 I1 73 1 (nI (num - 1)) 74 (52 + 17 * (num - 1) + j)) 17 74 y = I 74 y := fun y a => by rw [upF_out (by omega), up2_ne (by decide), h74]
    have c740 : ∀ k, k < 17 → upF (up2 I1 73 1 (nI (num - 1))) 74 0 (fun j => up2 I1 73 1 (nI (num - 1)) 74 (52 + 17 * (num - 1) + j)) 17 74 (0 + k) = I 74 (52 + 17 * (num - 1) + k) := fun k hk => by rw [upF_in hk, up2_ne (by decide), h74]
    generalize upF (up2 I1 73 1 (nI (num - 1))) 74 0 (fun j => up2 I1 73 1 (nI (num - 1)) 74 (52 + 17 * (num - 1) + j)) 17 = I3 at c1 c73 c731 c74 c740
    have cx : ∀ x, x < 73 → x ≠ 19 → ¬ (5 ≤ x ∧ x ≤ 8) → I3 x = I x := fun x a b e => by rw [c1 x (by omega) (by omega), f1 x b e]
    refine inv_arm h (fun x hx' => ?_) (c73 4 (by decide)) (c73 5 (by decide)) (fun y a b => c74 y (by omega)) ⟨n, ?_, ?_, ?_⟩
    · obtain ⟨a, b, e, f, g, i⟩ := hx'
      rw [c1 x e f, f1 x (by omega) (by omega)]
    · have hl := hp (num - 1) (by omega)
      rw [ep] at hl
      exact pA_cp hl (cp_trans f4 (cp_same (c1 5 (by decide) (by decide)) (c1 6 (by decide) (by decide)) (c1 7 (by decide) (by decide)) (c1 8 (by decide) (by decide)))) (by decide) (fun y a b => c74 y a) c740
    · refine ⟨ringP nx, num - 1, hP, by omega, by rw [c1 19 (by decide) (by decide)]; exact f2, by rw [c1 19 (by decide) (by decide)]; exact f3, c731, ?_⟩
      intro k hk
      rw [rg_old hx hu (by omega)]
      have hl' := rg_lt (nx := nx) (num := num) (k := k)
      exact pA_c (hp k (by omega)) (cx _ (by omega) (by omega) (by omega)) (cx _ (by omega) (by omega) (by omega)) (cx _ (by omega) (by omega) (by omega)) (cx _ (by omega) (by omega) (by omega)) (fun y a b => c74 y a) (fun m hm => c74 _ (by omega))
    · exact pKept_c hK (cx 62 (by decide) (by decide) (by decide)) (by rw [c1 75 (by decide) (by decide), f1 75 (by decide) (by decide)]) (fun x _ _ => cx x (by omega) (by omega) (by omega)) (fun y a b => c74 y a) (fun y a b => c74 y (by omega))
theorem two_k (x : Int32) : (x < 0 ∨ (1 : Int32) < x) ∨ ∃ k, k < 2 ∧ x = nI k := by
  rcases side_cases x with q | q | q
  · exact Or.inl q
  · exact Or.inr ⟨0, by decide, q⟩
  · exact Or.inr ⟨1, by decide, q⟩
theorem no_k {x : Int32} (q : x < 0 ∨ (1 : Int32) < x) (w : ¬ x < 0) : ¬ x < 2 ∧ (1 : Int32) < x := by
  rcases q with q | q
  · exact absurd q w
  · refine ⟨?_, q⟩
    rw [Int32.lt_iff_toInt_lt] at q ⊢
    have e1 : (1 : Int32).toInt = 1 := rfl
    have e2 : (2 : Int32).toInt = 2 := rfl
    omega
theorem st_keep (h : Inv I J) (x : Int32) : Alk F lv 73 141 [.int x] I J := by
  obtain ⟨n, hN, hP, hK⟩ := h.2.2.2.2.2
  obtain ⟨hR, d, hd, ed⟩ := hN
  rcases two_k x with q | ⟨k, hk, rfl⟩
  · refine ⟨-2, I, I, J, ?_, ?_, h⟩
    · by_cases w : x < 0
      · simp only [e_Main_keep, s_Main_keep_0, s_Main_keep_1, s_Main_keep_4, s_Main_keep_5, s_Main_keep_6, s_Main_keep_9, s_Main_keep_11, s_Main_keep_12, s_Main_keep_13, s_Main_keep_16, s_Main_keep_17, s_Main_keep_18, s_Main_keep_19, s_Main_keep_22 (ar_rcv ar_5), s_Main_keep_25, s_Main_keep_26, s_Main_keep_29, s_Main_keep_30, s_Main_keep_31, s_Main_keep_32, s_Main_keep_33, s_Main_keep_36, s_Main_keep_39, if_pos w]
      · simp only [e_Main_keep, s_Main_keep_0, s_Main_keep_1, s_Main_keep_4, s_Main_keep_5, s_Main_keep_6, s_Main_keep_9, s_Main_keep_11, s_Main_keep_12, s_Main_keep_13, s_Main_keep_16, s_Main_keep_17, s_Main_keep_18, s_Main_keep_19, s_Main_keep_22 (ar_rcv ar_5), s_Main_keep_25, s_Main_keep_26, s_Main_keep_29, s_Main_keep_30, s_Main_keep_31, s_Main_keep_32, s_Main_keep_33, s_Main_keep_36, s_Main_keep_39, if_neg w, if_neg (no_k q w).1]
    · by_cases w : x < 0
      · simp only [e_Model_keep, s_Model_keep_0, s_Model_keep_1, s_Model_keep_2, s_Model_keep_3, s_Model_keep_4, s_Model_keep_7, s_Model_keep_10, s_Model_keep_12, s_Model_keep_13, s_Model_keep_14, s_Model_keep_15, s_Model_keep_18, s_Model_keep_20, s_Model_keep_21, s_Model_keep_22, s_Model_keep_23, s_Model_keep_25 rcv_73, s_Model_keep_28, s_Model_keep_29, s_Model_keep_32, s_Model_keep_33, s_Model_keep_34, s_Model_keep_35, s_Model_keep_36, s_Model_keep_39, s_Model_keep_41, s_Model_keep_42, i64_0, i64_1, in_int, if_pos w, Option.bind_some, Option.toList_some, Option.toList_none, List.cons_append, List.nil_append, i10, i01, if_false, if_true, nI_add, nI_1]
      · simp only [e_Model_keep, s_Model_keep_0, s_Model_keep_1, s_Model_keep_2, s_Model_keep_3, s_Model_keep_4, s_Model_keep_7, s_Model_keep_10, s_Model_keep_12, s_Model_keep_13, s_Model_keep_14, s_Model_keep_15, s_Model_keep_18, s_Model_keep_20, s_Model_keep_21, s_Model_keep_22, s_Model_keep_23, s_Model_keep_25 rcv_73, s_Model_keep_28, s_Model_keep_29, s_Model_keep_32, s_Model_keep_33, s_Model_keep_34, s_Model_keep_35, s_Model_keep_36, s_Model_keep_39, s_Model_keep_41, s_Model_keep_42, i64_0, i64_1, in_int, if_neg w, if_pos (no_k q w).2, Option.bind_some, Option.toList_some, Option.toList_none, List.cons_append, List.nil_append, i10, i01, if_false, if_true, nI_add, nI_1]
  have k0 := nI_pos (show k < 2 ^ 31 by omega)
  have k2 : nI k < 2 := by rw [show (2 : Int32) = nI 2 from rfl]; exact nI_lt hk (by decide)
  have k1 : ¬ (1 : Int32) < nI k := by rw [show (1 : Int32) = nI 1 from rfl]; exact nI_nlt (by omega) (by decide)
  have vb : vp_nar .boolean 1 = 1 := by decide
  have hA := ar_k hk
  have ed' : takeI I (54 + 4 * k) 5 5 4 = nI d := by rw [take_ne (by omega) (by omega) (by omega) (by omega)]; exact ed
  have run1 : rn F (lv + 10) 73 [.ref 0, .int (nI k)] (HH I J) = some (some (.int (nI d)), HH (up2 (takeI I (54 + 4 * k) 5) 62 k 1) J) := by
    simp only [e_Main_keep, s_Main_keep_0, s_Main_keep_1, s_Main_keep_4, s_Main_keep_5, s_Main_keep_6, s_Main_keep_9, s_Main_keep_11, s_Main_keep_12, s_Main_keep_13, s_Main_keep_16, s_Main_keep_17, s_Main_keep_18, s_Main_keep_19, s_Main_keep_25, s_Main_keep_26, s_Main_keep_29, s_Main_keep_30, s_Main_keep_31, s_Main_keep_32, s_Main_keep_33, s_Main_keep_36, s_Main_keep_39, s_Main_keep_22 (ar_rcv hA), if_neg k0, if_pos k2, g_0_1, g_0_5, g_0_6, ga_kp hk, take_in hA ar_5 (show 5 + 3 < 54 + 4 * k ∨ 54 + 4 * k + 3 < 5 by omega), Option.bind_some, Option.toList_some, Option.toList_none, List.cons_append, List.nil_append, i10, i01, if_false, if_true, nI_add, nI_1, vb, pi_62, at_in hk (show 2 < 2 ^ 31 by decide), nI_clamp (show k < 2 ^ 31 by omega), g_5_4, up2_ne (show 5 ≠ 62 by decide), ed']
  have c := mcopy_in (F := F) (lv := lv + 9) (I := up2 (takeI I (54 + 4 * k) 5) 62 k 1) (J := J) (f := 0) (t := 188 + 17 * k) (N := 17) (by omega) (by omega) (by omega)
  rw [show nI 0 = (0 : Int32) from rfl] at c
  have e17 : (17 : Int32) = nI 17 := rfl
  have em : (188 : Int32) + 17 * nI k = nI (188 + 17 * k) := by rw [show (17 : Int32) * nI k = nI (17 * k) from pk_mul 17 k, show (188 : Int32) = nI 188 from rfl, nI_add]
  have h74 : up2 (takeI I (54 + 4 * k) 5) 62 k 1 74 = I 74 := by rw [up2_ne (by decide), take_ne (by omega) (by omega) (by omega) (by omega)]
  have dy : I 74 16 = nI d := by have := hR.dy; rw [Nat.zero_add] at this; rw [this]; exact ed
  refine ⟨nI d, _, up2 (upF (up2 (takeI I (54 + 4 * k) 5) 62 k 1) 74 (188 + 17 * k) (fun j => up2 (takeI I (54 + 4 * k) 5) 62 k 1 74 (0 + j)) 17) 75 k 1, J, run1, ?_, ?_⟩
  · have dy' : up2 (upF (up2 (takeI I (54 + 4 * k) 5) 62 k 1) 74 (188 + 17 * k) (fun j => up2 (takeI I (54 + 4 * k) 5) 62 k 1 74 (0 + j)) 17) 75 k 1 74 16 = nI d := by
      rw [up2_ne (by decide), upF_out (by omega), h74]; exact dy
    simp only [e_Model_keep, s_Model_keep_0, s_Model_keep_1, s_Model_keep_2, s_Model_keep_3, s_Model_keep_4, s_Model_keep_7, s_Model_keep_10, s_Model_keep_12, s_Model_keep_13, s_Model_keep_14, s_Model_keep_15, s_Model_keep_18, s_Model_keep_20, s_Model_keep_21, s_Model_keep_22, s_Model_keep_23, s_Model_keep_28, s_Model_keep_29, s_Model_keep_32, s_Model_keep_33, s_Model_keep_34, s_Model_keep_35, s_Model_keep_36, s_Model_keep_39, s_Model_keep_41, s_Model_keep_42, i64_0, i64_1, in_int, if_neg k0, if_neg k1, Option.bind_some, Option.toList_some, Option.toList_none, List.cons_append, List.nil_append, i10, i01, if_false, if_true, nI_add, nI_1, em, s_Model_keep_25 rcv_73]
    rw [e17, c]
    simp only [Option.bind_some, Option.toList_some, Option.toList_none, List.cons_append, List.nil_append, i10, i01, if_false, if_true, nI_add, nI_1, s_Model_keep_0, s_Model_keep_1, s_Model_keep_2, s_Model_keep_3, s_Model_keep_4, s_Model_keep_7, s_Model_keep_10, s_Model_keep_12, s_Model_keep_13, s_Model_keep_14, s_Model_keep_15, s_Model_keep_18, s_Model_keep_20, s_Model_keep_21, s_Model_keep_22, s_Model_keep_23, s_Model_keep_28, s_Model_keep_29, s_Model_keep_32, s_Model_keep_33, s_Model_keep_34, s_Model_keep_35, s_Model_keep_36, s_Model_keep_39, s_Model_keep_41, s_Model_keep_42, g_73_2, vb, pi_75, at_in hk (show 2 < 2 ^ 31 by decide), nI_clamp (show k < 2 ^ 31 by omega), g_73_0]
    rw [show (16 : Int32) = nI 16 from rfl, g74 (show 16 < 239 by decide), dy']
  · have c1 : ∀ x, x ≠ 62 → x ≠ 74 → x ≠ 75 → ¬ (54 + 4 * k ≤ x ∧ x ≤ 57 + 4 * k) → up2 (upF (up2 (takeI I (54 + 4 * k) 5) 62 k 1) 74 (188 + 17 * k) (fun j => up2 (takeI I (54 + 4 * k) 5) 62 k 1 74 (0 + j)) 17) 75 k 1 x = I x := fun x a b e f => by
      rw [up2_ne e, upF_ne b, up2_ne a, take_ne (by omega) (by omega) (by omega) (by omega)]
    have c62 : up2 (upF (up2 (takeI I (54 + 4 * k) 5) 62 k 1) 74 (188 + 17 * k) (fun j => up2 (takeI I (54 + 4 * k) 5) 62 k 1 74 (0 + j)) 17) 75 k 1 62 = upd (I 62) k 1 := by
      rw [up2_ne (by decide), upF_ne (by decide), up2_eq, take_ne (by omega) (by omega) (by omega) (by omega)]
    have c75 : up2 (upF (up2 (takeI I (54 + 4 * k) 5) 62 k 1) 74 (188 + 17 * k) (fun j => up2 (takeI I (54 + 4 * k) 5) 62 k 1 74 (0 + j)) 17) 75 k 1 75 = upd (I 75) k 1 := by
      rw [up2_eq, upF_ne (by decide), up2_ne (by decide), take_ne (by omega) (by omega) (by omega) (by omega)]
    have c74 : ∀ y, ¬ (188 + 17 * k ≤ y ∧ y < 205 + 17 * k) → up2 (upF (up2 (takeI I (54 + 4 * k) 5) 62 k 1) 74 (188 + 17 * k) (fun j => up2 (takeI I (54 + 4 * k) 5) 62 k 1 74 (0 + j)) 17) 75 k 1 74 y = I 74 y := fun y hy => by
      rw [up2_ne (by decide), upF_out (by omega), h74]
    have c74k : ∀ m, m < 17 → up2 (upF (up2 (takeI I (54 + 4 * k) 5) 62 k 1) 74 (188 + 17 * k) (fun j => up2 (takeI I (54 + 4 * k) 5) 62 k 1 74 (0 + j)) 17) 75 k 1 74 (188 + 17 * k + m) = I 74 (0 + m) := fun m hm => by
      rw [up2_ne (by decide), upF_in hm, h74]
    have cc : CpA I 5 (up2 (upF (up2 (takeI I (54 + 4 * k) 5) 62 k 1) 74 (188 + 17 * k) (fun j => up2 (takeI I (54 + 4 * k) 5) 62 k 1 74 (0 + j)) 17) 75 k 1) (54 + 4 * k) := by
      refine cp_trans (cp_take (C := I) (a := 54 + 4 * k) (b := 5)) (cp_same ?_ ?_ ?_ ?_)
      · rw [up2_ne (by omega), upF_ne (by omega), up2_ne (by omega)]
      · rw [up2_ne (by omega), upF_ne (by omega), up2_ne (by omega)]
      · rw [up2_ne (by omega), upF_ne (by omega), up2_ne (by omega)]
      · rw [up2_ne (by omega), upF_ne (by omega), up2_ne (by omega)]
    generalize up2 (upF (up2 (takeI I (54 + 4 * k) 5) 62 k 1) 74 (188 + 17 * k) (fun j => up2 (takeI I (54 + 4 * k) 5) 62 k 1 74 (0 + j)) 17) 75 k 1 = I3 at c1 c62 c75 c74 c74k cc
    refine inv_arm h (fun x hx' => ?_) (by rw [c1 73 (by decide) (by decide) (by decide) (by omega)]) (by rw [c1 73 (by decide) (by decide) (by decide) (by omega)]) (fun y a b => c74 y (by omega)) ⟨n, ?_, ?_, ?_⟩
    · obtain ⟨a, b, e, f, g, i⟩ := hx'
      exact c1 x (by omega) (by omega) (by omega) (by omega)
    · exact pA_c ⟨hR, d, hd, ed⟩ (c1 5 (by decide) (by decide) (by decide) (by omega)) (c1 6 (by decide) (by decide) (by decide) (by omega)) (c1 7 (by decide) (by decide) (by decide) (by omega)) (c1 8 (by decide) (by decide) (by decide) (by omega)) (fun y a b => c74 y (by omega)) (fun m hm => c74 _ (by omega))
    · exact pPast_c hP (by rw [c1 19 (by decide) (by decide) (by decide) (by omega)]) (by rw [c1 19 (by decide) (by decide) (by decide) (by omega)]) (by rw [c1 73 (by decide) (by decide) (by decide) (by omega)]) (fun x _ _ => c1 x (by omega) (by omega) (by omega) (by omega)) (fun y a b => c74 y (by omega)) (fun y a b => c74 y (by omega))
    · intro k' hk'
      by_cases w : k' = k
      · subst w
        rw [c62, c75, pk_us, pk_us]
        exact ⟨rfl, Or.inr ⟨rfl, pA_cp ⟨hR, d, hd, ed⟩ cc (by omega) (fun y a b => c74 y (by omega)) c74k⟩⟩
      · obtain ⟨e1, e2⟩ := hK k' hk'
        rw [c62, c75, pk_un w, pk_un w]
        refine ⟨e1, ?_⟩
        rcases e2 with e2 | ⟨e2, e3⟩
        · exact Or.inl e2
        · exact Or.inr ⟨e2, pA_c e3 (c1 _ (by omega) (by omega) (by omega) (by omega)) (c1 _ (by omega) (by omega) (by omega) (by omega)) (c1 _ (by omega) (by omega) (by omega) (by omega)) (c1 _ (by omega) (by omega) (by omega) (by omega)) (fun y a b => c74 y (by omega)) (fun m hm => c74 _ (by omega))⟩
theorem st_back (h : Inv I J) (x : Int32) : Alk F lv 74 142 [.int x] I J := by
  obtain ⟨n, hN, hP, hK⟩ := h.2.2.2.2.2
  obtain ⟨hR, d0, hd0, ed0⟩ := hN
  rcases two_k x with q | ⟨k, hk, rfl⟩
  · refine ⟨-2, I, I, J, ?_, ?_, h⟩
    · by_cases w : x < 0
      · simp only [e_Main_back, s_Main_back_0, s_Main_back_1, s_Main_back_4, s_Main_back_5, s_Main_back_6, s_Main_back_9, s_Main_back_11, s_Main_back_12, s_Main_back_13, s_Main_back_16, s_Main_back_17, s_Main_back_18, s_Main_back_21, s_Main_back_23, s_Main_back_24, s_Main_back_25, s_Main_back_28, s_Main_back_29, s_Main_back_32, s_Main_back_33, s_Main_back_34 (ar_rcv ar_5), s_Main_back_37, s_Main_back_38, s_Main_back_44, s_Main_back_45, s_Main_back_48, s_Main_back_51, if_pos w]
      · simp only [e_Main_back, s_Main_back_0, s_Main_back_1, s_Main_back_4, s_Main_back_5, s_Main_back_6, s_Main_back_9, s_Main_back_11, s_Main_back_12, s_Main_back_13, s_Main_back_16, s_Main_back_17, s_Main_back_18, s_Main_back_21, s_Main_back_23, s_Main_back_24, s_Main_back_25, s_Main_back_28, s_Main_back_29, s_Main_back_32, s_Main_back_33, s_Main_back_34 (ar_rcv ar_5), s_Main_back_37, s_Main_back_38, s_Main_back_44, s_Main_back_45, s_Main_back_48, s_Main_back_51, if_neg w, if_neg (no_k q w).1]
    · by_cases w : x < 0
      · simp only [e_Model_back, s_Model_back_0, s_Model_back_1, s_Model_back_2, s_Model_back_3, s_Model_back_4, s_Model_back_7, s_Model_back_10, s_Model_back_12, s_Model_back_13, s_Model_back_14, s_Model_back_17, s_Model_back_18, s_Model_back_19, s_Model_back_22, s_Model_back_24, s_Model_back_25, s_Model_back_26, s_Model_back_29, s_Model_back_31, s_Model_back_32, s_Model_back_33, s_Model_back_34, s_Model_back_35, s_Model_back_37 rcv_73, s_Model_back_40, s_Model_back_41, s_Model_back_42, s_Model_back_45, s_Model_back_46, s_Model_back_49, s_Model_back_51, s_Model_back_52, i64_0, i64_1, in_int, if_pos w, Option.bind_some, Option.toList_some, Option.toList_none, List.cons_append, List.nil_append, i10, i01, if_false, if_true, nI_add, nI_1]
      · simp only [e_Model_back, s_Model_back_0, s_Model_back_1, s_Model_back_2, s_Model_back_3, s_Model_back_4, s_Model_back_7, s_Model_back_10, s_Model_back_12, s_Model_back_13, s_Model_back_14, s_Model_back_17, s_Model_back_18, s_Model_back_19, s_Model_back_22, s_Model_back_24, s_Model_back_25, s_Model_back_26, s_Model_back_29, s_Model_back_31, s_Model_back_32, s_Model_back_33, s_Model_back_34, s_Model_back_35, s_Model_back_37 rcv_73, s_Model_back_40, s_Model_back_41, s_Model_back_42, s_Model_back_45, s_Model_back_46, s_Model_back_49, s_Model_back_51, s_Model_back_52, i64_0, i64_1, in_int, if_neg w, if_pos (no_k q w).2, Option.bind_some, Option.toList_some, Option.toList_none, List.cons_append, List.nil_append, i10, i01, if_false, if_true, nI_add, nI_1]
  have k0 := nI_pos (show k < 2 ^ 31 by omega)
  have k2 : nI k < 2 := by rw [show (2 : Int32) = nI 2 from rfl]; exact nI_lt hk (by decide)
  have k1 : ¬ (1 : Int32) < nI k := by rw [show (1 : Int32) = nI 1 from rfl]; exact nI_nlt (by omega) (by decide)
  have hA := ar_k hk
  obtain ⟨e1, e2⟩ := hK k hk
  rcases e2 with e2 | ⟨e2, hA2⟩
  · refine ⟨-4, I, I, J, ?_, ?_, h⟩
    · simp only [e_Main_back, s_Main_back_0, s_Main_back_1, s_Main_back_4, s_Main_back_5, s_Main_back_6, s_Main_back_9, s_Main_back_11, s_Main_back_12, s_Main_back_13, s_Main_back_16, s_Main_back_17, s_Main_back_18, s_Main_back_21, s_Main_back_23, s_Main_back_24, s_Main_back_25, s_Main_back_28, s_Main_back_29, s_Main_back_32, s_Main_back_33, s_Main_back_34 (ar_rcv ar_5), s_Main_back_37, s_Main_back_38, s_Main_back_44, s_Main_back_45, s_Main_back_48, s_Main_back_51, if_neg k0, if_pos k2, g_0_6, gi_62, at_in hk (show 2 < 2 ^ 31 by decide), nI_clamp (show k < 2 ^ 31 by omega), e2, if_true]
    · simp only [e_Model_back, s_Model_back_0, s_Model_back_1, s_Model_back_2, s_Model_back_3, s_Model_back_4, s_Model_back_7, s_Model_back_10, s_Model_back_12, s_Model_back_13, s_Model_back_14, s_Model_back_17, s_Model_back_18, s_Model_back_19, s_Model_back_22, s_Model_back_24, s_Model_back_25, s_Model_back_26, s_Model_back_29, s_Model_back_31, s_Model_back_32, s_Model_back_33, s_Model_back_34, s_Model_back_35, s_Model_back_37 rcv_73, s_Model_back_40, s_Model_back_41, s_Model_back_42, s_Model_back_45, s_Model_back_46, s_Model_back_49, s_Model_back_51, s_Model_back_52, i64_0, i64_1, in_int, if_neg k0, if_neg k1, Option.bind_some, Option.toList_some, Option.toList_none, List.cons_append, List.nil_append, i10, i01, if_false, if_true, nI_add, nI_1, g_73_2, gi_75, at_in hk (show 2 < 2 ^ 31 by decide), nI_clamp (show k < 2 ^ 31 by omega), ← e1, e2]
  obtain ⟨hR2, d, hd, ed⟩ := hA2
  have n1 : ¬ (1 : Int32) = 0 := by decide
  have cp := cp_take (C := I) (a := 5) (b := 54 + 4 * k)
  have ed' : takeI I 5 (54 + 4 * k) 5 4 = nI d := by rw [cp.2.1]; exact ed
  have run1 : rn F (lv + 10) 74 [.ref 0, .int (nI k)] (HH I J) = some (some (.int (nI d)), HH (up2 (up2 (takeI I 5 (54 + 4 * k)) 19 1 0) 19 2 0) J) := by
    simp only [e_Main_back, s_Main_back_0, s_Main_back_1, s_Main_back_4, s_Main_back_5, s_Main_back_6, s_Main_back_9, s_Main_back_11, s_Main_back_12, s_Main_back_13, s_Main_back_16, s_Main_back_17, s_Main_back_18, s_Main_back_21, s_Main_back_23, s_Main_back_24, s_Main_back_25, s_Main_back_28, s_Main_back_29, s_Main_back_32, s_Main_back_33, s_Main_back_34 (ar_rcv ar_5), s_Main_back_37, s_Main_back_38, s_Main_back_44, s_Main_back_45, s_Main_back_48, s_Main_back_51, if_neg k0, if_pos k2, g_0_6, gi_62, at_in hk (show 2 < 2 ^ 31 by decide), nI_clamp (show k < 2 ^ 31 by omega), e2, if_neg n1, g_0_1, g_0_4, g_0_5, ga_kp hk, take_in ar_5 hA (show 54 + 4 * k + 3 < 5 ∨ 5 + 3 < 54 + 4 * k by omega), Option.bind_some, Option.toList_some, Option.toList_none, List.cons_append, List.nil_append, i10, i01, if_false, if_true, nI_add, nI_1, s_Main_back_41 rcv_19, clear_eq, g_5_4, up2_ne (show 5 ≠ 19 by decide), ed']
  have h74 : up2 (up2 (takeI I 5 (54 + 4 * k)) 19 1 0) 19 2 0 74 = I 74 := by rw [up2_ne (by decide), up2_ne (by decide), take_ne (by decide) (by decide) (by decide) (by decide)]
  have h75 : up2 (up2 (takeI I 5 (54 + 4 * k)) 19 1 0) 19 2 0 75 = I 75 := by rw [up2_ne (by decide), up2_ne (by decide), take_ne (by decide) (by decide) (by decide) (by decide)]
  have f1 : ∀ x, x ≠ 19 → ¬ (5 ≤ x ∧ x ≤ 8) → up2 (up2 (takeI I 5 (54 + 4 * k)) 19 1 0) 19 2 0 x = I x := fun x a b => by rw [up2_ne a, up2_ne a, take_ne (by omega) (by omega) (by omega) (by omega)]
  have f2 : up2 (up2 (takeI I 5 (54 + 4 * k)) 19 1 0) 19 2 0 19 1 = nI 0 := by rw [up2_eq, pk_un (by decide), up2_eq, pk_us]; rfl
  have f3 : up2 (up2 (takeI I 5 (54 + 4 * k)) 19 1 0) 19 2 0 19 2 = nI 0 := by rw [up2_eq, pk_us]; rfl
  have f4 : CpA I (54 + 4 * k) (up2 (up2 (takeI I 5 (54 + 4 * k)) 19 1 0) 19 2 0) 5 := cp_trans cp (cp_same (by rw [up2_ne (by decide), up2_ne (by decide)]) (by rw [up2_ne (by decide), up2_ne (by decide)]) (by rw [up2_ne (by decide), up2_ne (by decide)]) (by rw [up2_ne (by decide), up2_ne (by decide)]))
  generalize up2 (up2 (takeI I 5 (54 + 4 * k)) 19 1 0) 19 2 0 = I1 at run1 h74 h75 f1 f2 f3 f4
  have c := mcopy_in (F := F) (lv := lv + 9) (I := I1) (J := J) (f := 188 + 17 * k) (t := 0) (N := 17) (by omega) (by omega) (by omega)
  rw [show nI 0 = (0 : Int32) from rfl] at c
  have e17 : (17 : Int32) = nI 17 := rfl
  have em : (188 : Int32) + 17 * nI k = nI (188 + 17 * k) := by rw [show (17 : Int32) * nI k = nI (17 * k) from pk_mul 17 k, show (188 : Int32) = nI 188 from rfl, nI_add]
  have e75 : I1 75 k = 1 := by rw [h75, ← e1]; exact e2
  refine ⟨nI d, I1, up2 (upF I1 74 0 (fun j => I1 74 (188 + 17 * k + j)) 17) 73 1 0, J, run1, ?_, ?_⟩
  · have dy' : up2 (upF I1 74 0 (fun j => I1 74 (188 + 17 * k + j)) 17) 73 1 0 74 16 = nI d := by
      rw [up2_ne (by decide), show (16 : Nat) = 0 + 16 from rfl, upF_in (by decide), h74, hR2.dy]; exact ed
    simp only [e_Model_back, s_Model_back_0, s_Model_back_1, s_Model_back_2, s_Model_back_3, s_Model_back_4, s_Model_back_7, s_Model_back_10, s_Model_back_12, s_Model_back_13, s_Model_back_14, s_Model_back_17, s_Model_back_18, s_Model_back_19, s_Model_back_22, s_Model_back_24, s_Model_back_25, s_Model_back_26, s_Model_back_29, s_Model_back_31, s_Model_back_32, s_Model_back_33, s_Model_back_34, s_Model_back_35, s_Model_back_40, s_Model_back_41, s_Model_back_42, s_Model_back_45, s_Model_back_46, s_Model_back_49, s_Model_back_51, s_Model_back_52, i64_0, i64_1, in_int, if_neg k0, if_neg k1, Option.bind_some, Option.toList_some, Option.toList_none, List.cons_append, List.nil_append, i10, i01, if_false, if_true, nI_add, nI_1, g_73_2, gi_75, at_in hk (show 2 < 2 ^ 31 by decide), nI_clamp (show k < 2 ^ 31 by omega), e75, em, s_Model_back_37 rcv_73]
    rw [e17, c]
    simp only [Option.bind_some, Option.toList_some, Option.toList_none, List.cons_append, List.nil_append, i10, i01, if_false, if_true, nI_add, nI_1, s_Model_back_0, s_Model_back_1, s_Model_back_2, s_Model_back_3, s_Model_back_4, s_Model_back_7, s_Model_back_10, s_Model_back_12, s_Model_back_13, s_Model_back_14, s_Model_back_17, s_Model_back_18, s_Model_back_19, s_Model_back_22, s_Model_back_24, s_Model_back_25, s_Model_back_26, s_Model_back_29, s_Model_back_31, s_Model_back_32, s_Model_back_33, s_Model_back_34, s_Model_back_35, s_Model_back_40, s_Model_back_41, s_Model_back_42, s_Model_back_45, s_Model_back_46, s_Model_back_49, s_Model_back_51, s_Model_back_52, p_73_1, g_73_0]
    rw [show (16 : Int32) = nI 16 from rfl, g74 (show 16 < 239 by decide), dy']
  · have c1 : ∀ x, x ≠ 73 → x ≠ 74 → up2 (upF I1 74 0 (fun j => I1 74 (188 + 17 * k + j)) 17) 73 1 0 x = I1 x := fun x a b => by rw [up2_ne a, upF_ne b]
    have c73 : ∀ y, y ≠ 1 → up2 (upF I1 74 0 (fun j => I1 74 (188 + 17 * k + j)) 17) 73 1 0 73 y = I 73 y := fun y a => by rw [up2_eq, pk_un a, upF_ne (by decide), f1 73 (by decide) (by decide)]
    have c731 : up2 (upF I1 74 0 (fun j => I1 74 (188 + 17 * k + j)) 17) 73 1 0 73 1 = nI 0 := by rw [up2_eq, pk_us]; rfl
    have c74 : ∀ y, 17 ≤ y → up2 (upF I1 74 0 (fun j => I1 74 (188 + 17 * k + j)) 17) 73 1 0 74 y = I 74 y := fun y a => by rw [up2_ne (by decide), upF_out (by omega), h74]
    have c740 : ∀ m, m < 17 → up2 (upF I1 74 0 (fun j => I1 74 (188 + 17 * k + j)) 17) 73 1 0 74 (0 + m) = I 74 (188 + 17 * k + m) := fun m hm => by rw [up2_ne (by decide), upF_in hm, h74]
    generalize up2 (upF I1 74 0 (fun j => I1 74 (188 + 17 * k + j)) 17) 73 1 0 = I3 at c1 c73 c731 c74 c740
    have cx : ∀ x, x < 73 → x ≠ 19 → ¬ (5 ≤ x ∧ x ≤ 8) → I3 x = I x := fun x a b e => by rw [c1 x (by omega) (by omega), f1 x b e]
    refine inv_arm h (fun x hx' => ?_) (c73 4 (by decide)) (c73 5 (by decide)) (fun y a b => c74 y (by omega)) ⟨n, ?_, ?_, ?_⟩
    · obtain ⟨a, b, e, f, g, i⟩ := hx'
      rw [c1 x e f, f1 x (by omega) (by omega)]
    · exact pA_cp ⟨hR2, d, hd, ed⟩ (cp_trans f4 (cp_same (c1 5 (by decide) (by decide)) (c1 6 (by decide) (by decide)) (c1 7 (by decide) (by decide)) (c1 8 (by decide) (by decide)))) (by decide) (fun y a b => c74 y a) c740
    · exact ⟨0, 0, by decide, by decide, by rw [c1 19 (by decide) (by decide)]; exact f2, by rw [c1 19 (by decide) (by decide)]; exact f3, c731, fun k hk => absurd hk (by omega)⟩
    · exact pKept_c hK (cx 62 (by decide) (by decide) (by decide)) (by rw [c1 75 (by decide) (by decide), h75]) (fun x _ _ => cx x (by omega) (by omega) (by omega)) (fun y a b => c74 y a) (fun y a b => c74 y (by omega))
end Cal
