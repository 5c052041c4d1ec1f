/-! ===== the Model: clauses read ===== -/
section Mtx
variable {F : jx_F} {lv : Nat} {X B : Nat → Nat → Int32} {J : Nat → Nat → Int64} {s e n men : Nat}
theorem g830 {α : Type} {f : Int32 → Option α} : jx_gi (HH X J) 0 83 0 f = f (X 83 0) := g83 (k := 0) (by decide)
theorem g831 {α : Type} {f : Int32 → Option α} : jx_gi (HH X J) 0 83 1 f = f (X 83 1) := g83 (k := 1) (by decide)
theorem mlay_74 {Y : Nat → Nat → Int32} (h : Y 74 = X 74) : mlay Y n 74 = mlay X n 74 := by
  unfold mlay
  exact upF_loc (upF_loc (up2_loc (upF_loc h)))
theorem mrA_in {dv : Int32} (en : X 73 4 = nI n) (ed : X 73 16 = dv) (hn : n ≤ 200) (he : e ≤ n) : ∃ X', match numN (X 76) n (nxS (KX X) n e) (nxE (KX X) n e) 1 4 with
    | none => rn F (lv + 4) 116 [.ref 73] (HH (MI X s e) J) = some (some (.int 0), HH (MI X' (nxS (KX X) n e) (nxE (KX X) n e)) J) ∧ RN X X'
    | some m => rn F (lv + 4) 116 [.ref 73] (HH (MI X s e) J) = some (some (.int 1), HH (MI X' (nxS (KX X) n (nxE (KX X) n e)) (nxE (KX X) n (nxE (KX X) n e))) J) ∧ RC X X' dv men (0, m, 0) := by
  have h1 := nx_s (I := KX X) he
  have h2 := nx_e (I := KX X) he
  have nb := mnum_in (F := F) (lv := lv) (J := J) (k := 0) (lo := 1) (hi := 4) en hn h1.2 (show nxE (KX X) n e = endN (KX X) n (nxS (KX X) n e) from rfl) (by decide) (by decide) (by omega)
  rw [show nI 0 = (0 : Int32) from rfl, show nI 1 = (1 : Int32) from rfl, show nI 4 = (4 : Int32) from rfl] at nb
  cases q : numN (X 76) n (nxS (KX X) n e) (nxE (KX X) n e) 1 4 with
  | none =>
    rw [q] at nb
    refine ⟨X, ?_, fun _ _ => rfl⟩
    simp only [e_Model_readsArmy, s_Model_readsArmy_0, s_Model_readsArmy_1 rcv_73, s_Model_readsArmy_4, s_Model_readsArmy_5, s_Model_readsArmy_6, s_Model_readsArmy_7, s_Model_readsArmy_8 rcv_73, s_Model_readsArmy_11, s_Model_readsArmy_14, rz_Model_readsArmy_15, ro_Model_readsArmy_15, s_Model_readsArmy_16, s_Model_readsArmy_17, s_Model_readsArmy_18, s_Model_readsArmy_21, s_Model_readsArmy_22, s_Model_readsArmy_23, s_Model_readsArmy_26, s_Model_readsArmy_27, s_Model_readsArmy_30, s_Model_readsArmy_33, s_Model_readsArmy_34, s_Model_readsArmy_35, s_Model_readsArmy_38 rcv_73, s_Model_readsArmy_41, rz_Model_readsArmy_42, ro_Model_readsArmy_42, mnxt_in en hn he, Option.bind_some, Option.toList_some, Option.toList_none, List.cons_append, List.nil_append, i10, i01, if_false, if_true, nI_add, nI_1, nb]
  | some m =>
    rw [q] at nb
    have hm := num_lt q
    have ed' : up2 (up2 X 83 0 (nI m)) 73 14 (nI m) 73 16 = dv := by rw [up2_eq, pk_un (by decide), up2_ne (by decide)]; exact ed
    have e14 : up2 (up2 X 83 0 (nI m)) 73 14 (nI m) 73 14 = nI m := by rw [up2_eq, pk_us]
    have e83 : up2 X 83 0 (nI m) 83 0 = nI m := by rw [up2_eq, pk_us]
    by_cases d0 : dv = 0
    · refine ⟨up2 (up2 X 83 0 (nI m)) 73 14 (nI m), ?_, fun x a b c => by rw [up2_ne a, up2_ne c], fun j hj => by rw [up2_eq, pk_un hj, up2_ne (by decide)], e14, by rw [if_pos d0, up2_ne (by decide), up2_ne (by decide)]⟩
      simp only [e_Model_readsArmy, s_Model_readsArmy_0, s_Model_readsArmy_1 rcv_73, s_Model_readsArmy_4, s_Model_readsArmy_5, s_Model_readsArmy_6, s_Model_readsArmy_7, s_Model_readsArmy_8 rcv_73, s_Model_readsArmy_11, s_Model_readsArmy_14, rz_Model_readsArmy_15, ro_Model_readsArmy_15, s_Model_readsArmy_16, s_Model_readsArmy_17, s_Model_readsArmy_18, s_Model_readsArmy_21, s_Model_readsArmy_22, s_Model_readsArmy_23, s_Model_readsArmy_26, s_Model_readsArmy_27, s_Model_readsArmy_30, s_Model_readsArmy_33, s_Model_readsArmy_34, s_Model_readsArmy_35, s_Model_readsArmy_38 rcv_73, s_Model_readsArmy_41, rz_Model_readsArmy_42, ro_Model_readsArmy_42, mnxt_in en hn he, Option.bind_some, Option.toList_some, Option.toList_none, List.cons_append, List.nil_append, i10, i01, if_false, if_true, nI_add, nI_1, nb, g_73_17, g830, mi_ne (show 83 ≠ 73 by decide), e83, p_73_14, mi_14, g_73_16, mi_j (show 16 ≠ 12 by decide) (show 16 ≠ 13 by decide), ed', if_pos d0]
    · refine ⟨mlay (up2 (up2 X 83 0 (nI m)) 73 14 (nI m)) m, ?_, fun x a b c => by rw [mlay_ne b, up2_ne a, up2_ne c], fun j hj => by rw [mlay_ne (by decide), up2_eq, pk_un hj, up2_ne (by decide)], by rw [mlay_ne (by decide)]; exact e14, ?_⟩
      · simp only [e_Model_readsArmy, s_Model_readsArmy_0, s_Model_readsArmy_1 rcv_73, s_Model_readsArmy_4, s_Model_readsArmy_5, s_Model_readsArmy_6, s_Model_readsArmy_7, s_Model_readsArmy_8 rcv_73, s_Model_readsArmy_11, s_Model_readsArmy_14, rz_Model_readsArmy_15, ro_Model_readsArmy_15, s_Model_readsArmy_16, s_Model_readsArmy_17, s_Model_readsArmy_18, s_Model_readsArmy_21, s_Model_readsArmy_22, s_Model_readsArmy_23, s_Model_readsArmy_26, s_Model_readsArmy_27, s_Model_readsArmy_30, s_Model_readsArmy_33, s_Model_readsArmy_34, s_Model_readsArmy_35, s_Model_readsArmy_38 rcv_73, s_Model_readsArmy_41, rz_Model_readsArmy_42, ro_Model_readsArmy_42, mnxt_in en hn he, Option.bind_some, Option.toList_some, Option.toList_none, List.cons_append, List.nil_append, i10, i01, if_false, if_true, nI_add, nI_1, nb, g_73_17, g830, mi_ne (show 83 ≠ 73 by decide), e83, p_73_14, mi_14, g_73_14, g_73_16, mi_j (show 14 ≠ 12 by decide) (show 14 ≠ 13 by decide), mi_j (show 16 ≠ 12 by decide) (show 16 ≠ 13 by decide), ed', e14, if_neg d0, mlay_in (show m ≤ 4 by omega), mi_lay]
      · rw [if_neg d0]
        unfold mact
        rw [if_pos rfl]
        exact mlay_74 (by rw [up2_ne (by decide), up2_ne (by decide)])
theorem mrB_in {dv : Int32} (h4 : 1 ≤ men ∧ men ≤ 4) (en : X 73 4 = nI n) (em : X 73 14 = nI men) (ed : X 73 16 = dv) (hn : n ≤ 200) (he : e ≤ n) : ∃ X', match numN (X 76) n (nxS (KX X) n e) (nxE (KX X) n e) 0 (2 * men - 1) with
    | none => rn F (lv + 4) 117 [.ref 73] (HH (MI X s e) J) = some (some (.int 0), HH (MI X' (nxS (KX X) n e) (nxE (KX X) n e)) J) ∧ RN X X'
    | some m => match numN (X 76) n (nxS (KX X) n (nxE (KX X) n e)) (nxE (KX X) n (nxE (KX X) n e)) 0 6 with
      | none => rn F (lv + 4) 117 [.ref 73] (HH (MI X s e) J) = some (some (.int 0), HH (MI X' (nxS (KX X) n (nxE (KX X) n e)) (nxE (KX X) n (nxE (KX X) n e))) J) ∧ RN X X'
      | some b => rn F (lv + 4) 117 [.ref 73] (HH (MI X s e) J) = some (some (.int 1), HH (MI X' (nxS (KX X) n (nxE (KX X) n (nxE (KX X) n e))) (nxE (KX X) n (nxE (KX X) n (nxE (KX X) n e)))) J) ∧ RC X X' dv men (6, m, b) := by
  have h1 := nx_s (I := KX X) he
  have h2 := nx_e (I := KX X) he
  have h3 := nx_s (I := KX X) h2.2
  have e2 : (2 : Int32) * nI men - 1 = nI (2 * men - 1) := by
    rw [show (2 : Int32) * nI men = nI (2 * men) from pk_mul 2 men]; exact pk_sub (show 1 ≤ 2 * men by omega)
  have nb := mnum_in (F := F) (lv := lv) (J := J) (k := 0) (lo := 0) (hi := 2 * men - 1) en hn h1.2 (show nxE (KX X) n e = endN (KX X) n (nxS (KX X) n e) from rfl) (by decide) (by decide) (by omega)
  rw [show nI 0 = (0 : Int32) from rfl] at nb
  cases q : numN (X 76) n (nxS (KX X) n e) (nxE (KX X) n e) 0 (2 * men - 1) with
  | none =>
    rw [q] at nb
    refine ⟨X, ?_, fun _ _ => rfl⟩
    simp only [e_Model_readsButtons, s_Model_readsButtons_0, s_Model_readsButtons_1 rcv_73, s_Model_readsButtons_4, s_Model_readsButtons_5, s_Model_readsButtons_6, s_Model_readsButtons_7, s_Model_readsButtons_8, s_Model_readsButtons_9, s_Model_readsButtons_12, s_Model_readsButtons_13, s_Model_readsButtons_14, s_Model_readsButtons_15 rcv_73, s_Model_readsButtons_18, s_Model_readsButtons_21, s_Model_readsButtons_22, s_Model_readsButtons_23, s_Model_readsButtons_24, s_Model_readsButtons_26 rcv_73, s_Model_readsButtons_29, s_Model_readsButtons_32, rz_Model_readsButtons_33, ro_Model_readsButtons_33, s_Model_readsButtons_34, s_Model_readsButtons_35, s_Model_readsButtons_38, s_Model_readsButtons_41, s_Model_readsButtons_42, s_Model_readsButtons_45, s_Model_readsButtons_47, s_Model_readsButtons_48, s_Model_readsButtons_51, s_Model_readsButtons_52, s_Model_readsButtons_53, s_Model_readsButtons_54, s_Model_readsButtons_55, s_Model_readsButtons_58, s_Model_readsButtons_59, s_Model_readsButtons_60, s_Model_readsButtons_61, rz_Model_readsButtons_62, ro_Model_readsButtons_62, mnxt_in en hn he, Option.bind_some, Option.toList_some, Option.toList_none, List.cons_append, List.nil_append, i10, i01, if_false, if_true, nI_add, nI_1, g_73_14, mi_j (show 14 ≠ 12 by decide) (show 14 ≠ 13 by decide), em, e2, nb]
  | some m =>
    rw [q] at nb
    have hm := num_lt q
    have en1 : up2 X 83 0 (nI m) 73 4 = nI n := by rw [up2_ne (by decide)]; exact en
    have nb2 := mnum_in (F := F) (lv := lv) (X := up2 X 83 0 (nI m)) (J := J) (k := 1) (lo := 0) (hi := 6) (s := nxS (KX X) n (nxE (KX X) n e)) (e := nxE (KX X) n (nxE (KX X) n e)) en1 hn h3.2 (by rw [kx_up (by decide)]; rfl) (by decide) (by decide) (by omega)
    rw [kx_up (by decide), show nI 0 = (0 : Int32) from rfl, show nI 1 = (1 : Int32) from rfl, show nI 6 = (6 : Int32) from rfl, show up2 X 83 0 (nI m) 76 = X 76 from up2_ne (by decide)] at nb2
    cases q2 : numN (X 76) n (nxS (KX X) n (nxE (KX X) n e)) (nxE (KX X) n (nxE (KX X) n e)) 0 6 with
    | none =>
      rw [q2] at nb2
      refine ⟨up2 X 83 0 (nI m), ?_, fun x hx => up2_ne hx⟩
      simp only [e_Model_readsButtons, s_Model_readsButtons_0, s_Model_readsButtons_1 rcv_73, s_Model_readsButtons_4, s_Model_readsButtons_5, s_Model_readsButtons_6, s_Model_readsButtons_7, s_Model_readsButtons_8, s_Model_readsButtons_9, s_Model_readsButtons_12, s_Model_readsButtons_13, s_Model_readsButtons_14, s_Model_readsButtons_15 rcv_73, s_Model_readsButtons_18, s_Model_readsButtons_21, s_Model_readsButtons_22, s_Model_readsButtons_23, s_Model_readsButtons_24, s_Model_readsButtons_26 rcv_73, s_Model_readsButtons_29, s_Model_readsButtons_32, rz_Model_readsButtons_33, ro_Model_readsButtons_33, s_Model_readsButtons_34, s_Model_readsButtons_35, s_Model_readsButtons_38, s_Model_readsButtons_41, s_Model_readsButtons_42, s_Model_readsButtons_45, s_Model_readsButtons_47, s_Model_readsButtons_48, s_Model_readsButtons_51, s_Model_readsButtons_52, s_Model_readsButtons_53, s_Model_readsButtons_54, s_Model_readsButtons_55, s_Model_readsButtons_58, s_Model_readsButtons_59, s_Model_readsButtons_60, s_Model_readsButtons_61, rz_Model_readsButtons_62, ro_Model_readsButtons_62, mnxt_in en hn he, Option.bind_some, Option.toList_some, Option.toList_none, List.cons_append, List.nil_append, i10, i01, if_false, if_true, nI_add, nI_1, g_73_14, mi_j (show 14 ≠ 12 by decide) (show 14 ≠ 13 by decide), em, e2, nb, nb2]
    | some b =>
      rw [q2] at nb2
      have hb := num_lt q2
      have e26 : (26 : Int32) = nI 26 := rfl
      have ed' : up2 (up2 X 83 0 (nI m)) 83 1 (nI b) 73 16 = dv := by rw [up2_ne (by decide), up2_ne (by decide)]; exact ed
      have e830 : up2 (up2 X 83 0 (nI m)) 83 1 (nI b) 83 0 = nI m := by rw [up2_eq, pk_un (by decide), up2_eq, pk_us]
      have e831 : up2 (up2 X 83 0 (nI m)) 83 1 (nI b) 83 1 = nI b := by rw [up2_eq, pk_us]
      by_cases d0 : dv = 0
      · refine ⟨up2 (up2 X 83 0 (nI m)) 83 1 (nI b), ?_, fun x _ _ c => by rw [up2_ne c, up2_ne c], fun j _ => by rw [up2_ne (by decide), up2_ne (by decide)], by rw [up2_ne (by decide), up2_ne (by decide)]; exact em, by rw [if_pos d0, up2_ne (by decide), up2_ne (by decide)]⟩
        simp only [e_Model_readsButtons, s_Model_readsButtons_0, s_Model_readsButtons_1 rcv_73, s_Model_readsButtons_4, s_Model_readsButtons_5, s_Model_readsButtons_6, s_Model_readsButtons_7, s_Model_readsButtons_8, s_Model_readsButtons_9, s_Model_readsButtons_12, s_Model_readsButtons_13, s_Model_readsButtons_14, s_Model_readsButtons_15 rcv_73, s_Model_readsButtons_18, s_Model_readsButtons_21, s_Model_readsButtons_22, s_Model_readsButtons_23, s_Model_readsButtons_24, s_Model_readsButtons_26 rcv_73, s_Model_readsButtons_29, s_Model_readsButtons_32, rz_Model_readsButtons_33, ro_Model_readsButtons_33, s_Model_readsButtons_34, s_Model_readsButtons_35, s_Model_readsButtons_38, s_Model_readsButtons_41, s_Model_readsButtons_42, s_Model_readsButtons_45, s_Model_readsButtons_47, s_Model_readsButtons_48, s_Model_readsButtons_51, s_Model_readsButtons_52, s_Model_readsButtons_53, s_Model_readsButtons_54, s_Model_readsButtons_55, s_Model_readsButtons_58, s_Model_readsButtons_59, s_Model_readsButtons_60, s_Model_readsButtons_61, rz_Model_readsButtons_62, ro_Model_readsButtons_62, mnxt_in en hn he, Option.bind_some, Option.toList_some, Option.toList_none, List.cons_append, List.nil_append, i10, i01, if_false, if_true, nI_add, nI_1, g_73_14, mi_j (show 14 ≠ 12 by decide) (show 14 ≠ 13 by decide), em, e2, nb, nb2, g_73_16, mi_j (show 16 ≠ 12 by decide) (show 16 ≠ 13 by decide), ed', if_pos d0]
      · refine ⟨up2 (up2 (up2 X 83 0 (nI m)) 83 1 (nI b)) 74 (26 + m) (nI b), ?_, fun x _ b c => by rw [up2_ne b, up2_ne c, up2_ne c], fun j _ => by rw [up2_ne (by decide), up2_ne (by decide), up2_ne (by decide)], by rw [up2_ne (by decide), up2_ne (by decide), up2_ne (by decide)]; exact em, ?_⟩
        · simp only [e_Model_readsButtons, s_Model_readsButtons_0, s_Model_readsButtons_1 rcv_73, s_Model_readsButtons_4, s_Model_readsButtons_5, s_Model_readsButtons_6, s_Model_readsButtons_7, s_Model_readsButtons_8, s_Model_readsButtons_9, s_Model_readsButtons_12, s_Model_readsButtons_13, s_Model_readsButtons_14, s_Model_readsButtons_15 rcv_73, s_Model_readsButtons_18, s_Model_readsButtons_21, s_Model_readsButtons_22, s_Model_readsButtons_23, s_Model_readsButtons_24, s_Model_readsButtons_26 rcv_73, s_Model_readsButtons_29, s_Model_readsButtons_32, rz_Model_readsButtons_33, ro_Model_readsButtons_33, s_Model_readsButtons_34, s_Model_readsButtons_35, s_Model_readsButtons_38, s_Model_readsButtons_41, s_Model_readsButtons_42, s_Model_readsButtons_45, s_Model_readsButtons_47, s_Model_readsButtons_48, s_Model_readsButtons_51, s_Model_readsButtons_52, s_Model_readsButtons_53, s_Model_readsButtons_54, s_Model_readsButtons_55, s_Model_readsButtons_58, s_Model_readsButtons_59, s_Model_readsButtons_60, s_Model_readsButtons_61, rz_Model_readsButtons_62, ro_Model_readsButtons_62, mnxt_in en hn he, Option.bind_some, Option.toList_some, Option.toList_none, List.cons_append, List.nil_append, i10, i01, if_false, if_true, nI_add, nI_1, g_73_14, mi_j (show 14 ≠ 12 by decide) (show 14 ≠ 13 by decide), em, e2, nb, nb2, g_73_16, mi_j (show 16 ≠ 12 by decide) (show 16 ≠ 13 by decide), ed', if_neg d0, g_73_0, g_73_17, g830, g831, mi_ne (show 83 ≠ 73 by decide), e830, e831, e26, p74 (show 26 + m < 239 by omega), mi_up (show 74 ≠ 73 by decide)]
        · rw [if_neg d0]
          unfold mact
          simp only [if_neg (show ¬ (6 : Nat) = 0 by decide), if_neg (show ¬ (6 : Nat) ≤ 5 by decide), if_true]
          rw [up2_eq, up2_eq, up2_ne (by decide), up2_ne (by decide)]
theorem mrM_in {dv : Int32} (h4 : 1 ≤ men ∧ men ≤ 4) (en : X 73 4 = nI n) (em : X 73 14 = nI men) (ed : X 73 16 = dv) (hn : n ≤ 200) (he : e ≤ n) : ∃ X', match numN (X 76) n (nxS (KX X) n e) (nxE (KX X) n e) 0 (2 * men - 1) with
    | none => rn F (lv + 4) 118 [.ref 73] (HH (MI X s e) J) = some (some (.int 0), HH (MI X' (nxS (KX X) n e) (nxE (KX X) n e)) J) ∧ RN X X'
    | some m => match numN (X 76) n (nxS (KX X) n (nxE (KX X) n e)) (nxE (KX X) n (nxE (KX X) n e)) (oth men m) (oth men m + men - 1) with
      | none => rn F (lv + 4) 118 [.ref 73] (HH (MI X s e) J) = some (some (.int 0), HH (MI X' (nxS (KX X) n (nxE (KX X) n e)) (nxE (KX X) n (nxE (KX X) n e))) J) ∧ RN X X'
      | some b => rn F (lv + 4) 118 [.ref 73] (HH (MI X s e) J) = some (some (.int 1), HH (MI X' (nxS (KX X) n (nxE (KX X) n (nxE (KX X) n e))) (nxE (KX X) n (nxE (KX X) n (nxE (KX X) n e)))) J) ∧ RC X X' dv men (7, m, b) := by
  have h1 := nx_s (I := KX X) he
  have h2 := nx_e (I := KX X) he
  have h3 := nx_s (I := KX X) h2.2
  have e2 : (2 : Int32) * nI men - 1 = nI (2 * men - 1) := by
    rw [show (2 : Int32) * nI men = nI (2 * men) from pk_mul 2 men]; exact pk_sub (show 1 ≤ 2 * men by omega)
  have nb := mnum_in (F := F) (lv := lv) (J := J) (k := 0) (lo := 0) (hi := 2 * men - 1) en hn h1.2 (show nxE (KX X) n e = endN (KX X) n (nxS (KX X) n e) from rfl) (by decide) (by decide) (by omega)
  rw [show nI 0 = (0 : Int32) from rfl] at nb
  cases q : numN (X 76) n (nxS (KX X) n e) (nxE (KX X) n e) 0 (2 * men - 1) with
  | none =>
    rw [q] at nb
    refine ⟨X, ?_, fun _ _ => rfl⟩
    simp only [e_Model_readsMender, s_Model_readsMender_0, s_Model_readsMender_1 rcv_73, s_Model_readsMender_4, s_Model_readsMender_5, s_Model_readsMender_6, s_Model_readsMender_7, s_Model_readsMender_8, s_Model_readsMender_9, s_Model_readsMender_12, s_Model_readsMender_13, s_Model_readsMender_14, s_Model_readsMender_15 rcv_73, s_Model_readsMender_18, s_Model_readsMender_21, rz_Model_readsMender_22, ro_Model_readsMender_22, s_Model_readsMender_23, s_Model_readsMender_24, s_Model_readsMender_27, s_Model_readsMender_28, s_Model_readsMender_29, s_Model_readsMender_30, s_Model_readsMender_33, s_Model_readsMender_36, s_Model_readsMender_37, s_Model_readsMender_40, s_Model_readsMender_43, s_Model_readsMender_44, s_Model_readsMender_45, s_Model_readsMender_46, s_Model_readsMender_47, s_Model_readsMender_48, s_Model_readsMender_49, s_Model_readsMender_50, s_Model_readsMender_53, s_Model_readsMender_54, s_Model_readsMender_55, s_Model_readsMender_56 rcv_73, s_Model_readsMender_59, s_Model_readsMender_62, rz_Model_readsMender_63, ro_Model_readsMender_63, s_Model_readsMender_64, s_Model_readsMender_65, s_Model_readsMender_68, s_Model_readsMender_71, s_Model_readsMender_72, s_Model_readsMender_75, s_Model_readsMender_77, s_Model_readsMender_78, s_Model_readsMender_81, s_Model_readsMender_82, s_Model_readsMender_83, s_Model_readsMender_84, s_Model_readsMender_85, s_Model_readsMender_88, s_Model_readsMender_89, s_Model_readsMender_90, s_Model_readsMender_91, rz_Model_readsMender_92, ro_Model_readsMender_92, mnxt_in en hn he, Option.bind_some, Option.toList_some, Option.toList_none, List.cons_append, List.nil_append, i10, i01, if_false, if_true, nI_add, nI_1, g_73_14, mi_j (show 14 ≠ 12 by decide) (show 14 ≠ 13 by decide), em, e2, nb]
  | some m =>
    rw [q] at nb
    have hm := num_lt q
    have ho : oth men m ≤ 4 := by unfold oth; split <;> omega
    have en1 : up2 X 83 0 (nI m) 73 4 = nI n := by rw [up2_ne (by decide)]; exact en
    have em1 : up2 X 83 0 (nI m) 73 14 = nI men := by rw [up2_ne (by decide)]; exact em
    have e83 : up2 X 83 0 (nI m) 83 0 = nI m := by rw [up2_eq, pk_us]
    have nb2 := mnum_in (F := F) (lv := lv) (X := up2 X 83 0 (nI m)) (J := J) (k := 1) (lo := oth men m) (hi := oth men m + men - 1) (s := nxS (KX X) n (nxE (KX X) n e)) (e := nxE (KX X) n (nxE (KX X) n e)) en1 hn h3.2 (by rw [kx_up (by decide)]; rfl) (by decide) (by omega) (by omega)
    rw [kx_up (by decide), show nI 1 = (1 : Int32) from rfl, show up2 X 83 0 (nI m) 76 = X 76 from up2_ne (by decide)] at nb2
    -- up to the second number
    have run0 : rn F (lv + 4) 118 [.ref 73] (HH (MI X s e) J) = (rn F (lv + 3) 113 [.ref 73, .int 1, .int (nI (oth men m)), .int (nI (oth men m + men - 1))] (HH (MI (up2 X 83 0 (nI m)) (nxS (KX X) n (nxE (KX X) n e)) (nxE (KX X) n (nxE (KX X) n e))) J)).bind fun q => ev F (lv + 4) jm_Model_readsMender 59 [.ref 73, .int (nI (oth men m))] (q.1.toList ++ []) q.2 := by
      simp only [e_Model_readsMender, s_Model_readsMender_0, s_Model_readsMender_1 rcv_73, mnxt_in en hn he, Option.bind_some, Option.toList_some, Option.toList_none, List.cons_append, List.nil_append, i10, i01, if_false, if_true, nI_add, nI_1, s_Model_readsMender_4, s_Model_readsMender_5, s_Model_readsMender_6, s_Model_readsMender_7, s_Model_readsMender_8, s_Model_readsMender_9, s_Model_readsMender_12, s_Model_readsMender_13, s_Model_readsMender_14, s_Model_readsMender_15 rcv_73, g_73_14, mi_j (show 14 ≠ 12 by decide) (show 14 ≠ 13 by decide), em, e2, nb, s_Model_readsMender_18, s_Model_readsMender_23, s_Model_readsMender_24, s_Model_readsMender_27, s_Model_readsMender_28, g_73_17, g830, mi_ne (show 83 ≠ 73 by decide), e83, s_Model_readsMender_29, s_Model_readsMender_30, em1, s_Model_readsMender_33]
      by_cases w : men ≤ m
      · have eo : oth men m = 0 := by unfold oth; rw [if_pos w]
        simp only [if_pos (nI_le w (show m < 2 ^ 31 by omega)), s_Model_readsMender_43, s_Model_readsMender_44, s_Model_readsMender_45, s_Model_readsMender_46, s_Model_readsMender_47, s_Model_readsMender_48, s_Model_readsMender_49, s_Model_readsMender_50, g_73_14, mi_j (show 14 ≠ 12 by decide) (show 14 ≠ 13 by decide), em1, s_Model_readsMender_53, s_Model_readsMender_54, s_Model_readsMender_55, s_Model_readsMender_56 rcv_73, eo, Nat.zero_add, Int32.zero_add, show nI men - 1 = nI (men - 1) from pk_sub (show 1 ≤ men by omega), show nI 0 = (0 : Int32) from rfl, List.append_nil]
      · have eo : oth men m = men := by unfold oth; rw [if_neg w]
        simp only [if_neg (nI_ge (show m < men by omega) (show men < 2 ^ 31 by omega)), s_Model_readsMender_36, s_Model_readsMender_37, s_Model_readsMender_40, s_Model_readsMender_44, s_Model_readsMender_45, s_Model_readsMender_46, s_Model_readsMender_47, s_Model_readsMender_48, s_Model_readsMender_49, s_Model_readsMender_50, g_73_14, mi_j (show 14 ≠ 12 by decide) (show 14 ≠ 13 by decide), em1, s_Model_readsMender_53, s_Model_readsMender_54, s_Model_readsMender_55, s_Model_readsMender_56 rcv_73, eo, nI_add, show nI (men + men) - 1 = nI (men + men - 1) from pk_sub (show 1 ≤ men + men by omega), List.append_nil]
    dsimp only
    cases q2 : numN (X 76) n (nxS (KX X) n (nxE (KX X) n e)) (nxE (KX X) n (nxE (KX X) n e)) (oth men m) (oth men m + men - 1) with
    | none =>
      rw [q2] at nb2
      refine ⟨up2 X 83 0 (nI m), ?_, fun x hx => up2_ne hx⟩
      rw [run0]
      simp only [nb2, Option.bind_some, Option.toList_some, Option.toList_none, List.cons_append, List.nil_append, i10, i01, if_false, if_true, nI_add, nI_1, s_Model_readsMender_59, s_Model_readsMender_62, rz_Model_readsMender_63]
    | some b =>
      rw [q2] at nb2
      have hb := num_lt q2
      have e34 : (34 : Int32) = nI 34 := rfl
      have ed' : up2 (up2 X 83 0 (nI m)) 83 1 (nI b) 73 16 = dv := by rw [up2_ne (by decide), up2_ne (by decide)]; exact ed
      have e830 : up2 (up2 X 83 0 (nI m)) 83 1 (nI b) 83 0 = nI m := by rw [up2_eq, pk_un (by decide), up2_eq, pk_us]
      have e831 : up2 (up2 X 83 0 (nI m)) 83 1 (nI b) 83 1 = nI b := by rw [up2_eq, pk_us]
      by_cases d0 : dv = 0
      · refine ⟨up2 (up2 X 83 0 (nI m)) 83 1 (nI b), ?_, fun x _ _ c => by rw [up2_ne c, up2_ne c], fun j _ => by rw [up2_ne (by decide), up2_ne (by decide)], by rw [up2_ne (by decide), up2_ne (by decide)]; exact em, by rw [if_pos d0, up2_ne (by decide), up2_ne (by decide)]⟩
        rw [run0]
        simp only [nb2, Option.bind_some, Option.toList_some, Option.toList_none, List.cons_append, List.nil_append, i10, i01, if_false, if_true, nI_add, nI_1, s_Model_readsMender_59, s_Model_readsMender_64, s_Model_readsMender_65, g_73_16, mi_j (show 16 ≠ 12 by decide) (show 16 ≠ 13 by decide), ed', s_Model_readsMender_68, if_pos d0, s_Model_readsMender_91, ro_Model_readsMender_92]
      · refine ⟨up2 (up2 (up2 X 83 0 (nI m)) 83 1 (nI b)) 74 (34 + m) (nI b), ?_, fun x _ b c => by rw [up2_ne b, up2_ne c, up2_ne c], fun j _ => by rw [up2_ne (by decide), up2_ne (by decide), up2_ne (by decide)], by rw [up2_ne (by decide), up2_ne (by decide), up2_ne (by decide)]; exact em, ?_⟩
        · rw [run0]
          simp only [nb2, Option.bind_some, Option.toList_some, Option.toList_none, List.cons_append, List.nil_append, i10, i01, if_false, if_true, nI_add, nI_1, s_Model_readsMender_59, s_Model_readsMender_64, s_Model_readsMender_65, g_73_16, mi_j (show 16 ≠ 12 by decide) (show 16 ≠ 13 by decide), ed', s_Model_readsMender_68, if_neg d0, s_Model_readsMender_71, s_Model_readsMender_72, s_Model_readsMender_75, s_Model_readsMender_77, s_Model_readsMender_78, s_Model_readsMender_81, s_Model_readsMender_82, s_Model_readsMender_83, s_Model_readsMender_84, s_Model_readsMender_85, s_Model_readsMender_88, s_Model_readsMender_89, s_Model_readsMender_90, g_73_0, g_73_17, g830, g831, mi_ne (show 83 ≠ 73 by decide), e830, e831, e34, p74 (show 34 + m < 239 by omega), mi_up (show 74 ≠ 73 by decide), s_Model_readsMender_91, ro_Model_readsMender_92]
        · rw [if_neg d0]
          unfold mact
          simp only [if_neg (show ¬ (7 : Nat) = 0 by decide), if_neg (show ¬ (7 : Nat) ≤ 5 by decide), if_neg (show ¬ (7 : Nat) = 6 by decide)]
          rw [up2_eq, up2_eq, up2_ne (by decide), up2_ne (by decide)]
end Mtx
