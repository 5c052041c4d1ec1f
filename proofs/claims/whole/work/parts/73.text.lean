/-! ===== Text: readClause, readOnto ===== -/
section Cng
variable {I I' : Nat → Nat → Int32} {n : Nat}
theorem skp_c : ∀ (c i : Nat), (∀ j, j < i + c → I 14 j = I' 14 j) → skpN I c i = skpN I' c i := by
  intro c
  induction c with
  | zero => intro i _; rfl
  | succ c ih =>
    intro i h
    unfold skpN
    rw [h i (by omega), ih (i + 1) (fun j hj => h j (by omega))]
theorem run_c {t : Int32} : ∀ (c i : Nat), (∀ j, j < i + c → I 14 j = I' 14 j) → runN I t c i = runN I' t c i := by
  intro c
  induction c with
  | zero => intro i _; rfl
  | succ c ih =>
    intro i h
    unfold runN
    rw [h i (by omega), ih (i + 1) (fun j hj => h j (by omega))]
theorem end_c {s : Nat} (h : ∀ j, j < n → I 14 j = I' 14 j) : endN I n s = endN I' n s := by
  unfold endN
  by_cases q : s < n
  · rw [if_pos q, if_pos q, h s q, run_c _ _ (fun j hj => h j (by omega))]
  · rw [if_neg q, if_neg q]
theorem nxS_c {e : Nat} (h : ∀ j, j < n → I 14 j = I' 14 j) (he : e ≤ n) : nxS I n e = nxS I' n e := by
  unfold nxS
  exact skp_c _ _ (fun j hj => h j (by omega))
theorem nxE_c {e : Nat} (h : ∀ j, j < n → I 14 j = I' 14 j) (he : e ≤ n) : nxE I n e = nxE I' n e := by
  unfold nxE
  rw [nxS_c h he, end_c h]
end Cng
/-- what a clause says: (0, men, _), (kind + 1, man, _), (6, man, buttons), (7, man, mender); where its last token lies -/
def clF (I : Nat → Nat → Int32) (n men e : Nat) : Option (Nat × Nat × Nat) × Nat × Nat :=
  match wdF (I 14) (nxS I n e) (nxE I n e) 8 0 with
  | none => (none, nxS I n e, nxE I n e)
  | some w =>
    if w = 0 then
      match numN (I 14) n (nxS I n (nxE I n e)) (nxE I n (nxE I n e)) 1 4 with
      | none => (none, nxS I n (nxE I n e), nxE I n (nxE I n e))
      | some v => (some (0, v, 0), nxS I n (nxE I n e), nxE I n (nxE I n e))
    else
      match numN (I 14) n (nxS I n (nxE I n e)) (nxE I n (nxE I n e)) 0 (2 * men - 1) with
      | none => (none, nxS I n (nxE I n e), nxE I n (nxE I n e))
      | some m =>
        if w ≤ 5 then (some (w, m, 0), nxS I n (nxE I n e), nxE I n (nxE I n e))
        else if w = 6 then
          match numN (I 14) n (nxS I n (nxE I n (nxE I n e))) (nxE I n (nxE I n (nxE I n e))) 0 6 with
          | none => (none, nxS I n (nxE I n (nxE I n e)), nxE I n (nxE I n (nxE I n e)))
          | some b => (some (6, m, b), nxS I n (nxE I n (nxE I n e)), nxE I n (nxE I n (nxE I n e)))
        else
          match numN (I 14) n (nxS I n (nxE I n (nxE I n e))) (nxE I n (nxE I n (nxE I n e))) (oth men m) (oth men m + men - 1) with
          | none => (none, nxS I n (nxE I n (nxE I n e)), nxE I n (nxE I n (nxE I n e)))
          | some b => (some (7, m, b), nxS I n (nxE I n (nxE I n e)), nxE I n (nxE I n (nxE I n e)))
/-- the draft behind a clause -/
def actO (I : Nat → Nat → Int32) : Option (Nat × Nat × Nat) → Nat → Nat → Int32
  | none => I
  | some (k, a, b) => if k = 0 then begI I 15 a else if k ≤ 5 then up2 I 16 a (nI (k - 1)) else if k = 6 then up2 I 17 a (nI b) else up2 I 18 a (nI b)
/-- did it read -/
def okO : Option (Nat × Nat × Nat) → Int32
  | none => 0
  | some _ => 1
section Txt
variable {F : jx_F} {nn : Nat} {xs : Nat → Int32} {fm : Value} {lv : Nat} {I : Nat → Nat → Int32} {J : Nat → Nat → Int64} {s e n : Nat}
theorem cl_le {men : Nat} (he : e ≤ n) : (clF I n men e).2.1 ≤ n ∧ (clF I n men e).2.2 ≤ n := by
  have h1 := nx_e (I := I) he
  have h2 := nx_e (I := I) h1.2
  have h3 := nx_e (I := I) h2.2
  unfold clF
  split
  · (constructor <;> dsimp only <;> omega)
  · split
    · split
      · (constructor <;> dsimp only <;> omega)
      · (constructor <;> dsimp only <;> omega)
    · split
      · (constructor <;> dsimp only <;> omega)
      · split
        · (constructor <;> dsimp only <;> omega)
        · split
          · split
            · (constructor <;> dsimp only <;> omega)
            · (constructor <;> dsimp only <;> omega)
          · split
            · (constructor <;> dsimp only <;> omega)
            · (constructor <;> dsimp only <;> omega)
theorem cl_in {men : Nat} (hm : fm = .null ∨ ∃ k, fm = .retAddr k) (hM : Mn I 15 men) (en : I 13 2 = nI n) (hn : n ≤ 200) (he : e ≤ n) : rn (jx_fo nn xs fm) (lv + 6) 52 [.ref 13] (HH (TI I s e) J) = some (some (.int (okO (clF I n men e).1)), HH (TI (actO I (clF I n men e).1) (clF I n men e).2.1 (clF I n men e).2.2) J) := by
  have h1 := nx_e (I := I) he
  have h2 := nx_e (I := I) h1.2
  have hM' : ∀ s e, Mn (TI I s e) 15 men := fun s e => ⟨by rw [ti_ne (by decide)]; exact hM.1, hM.2⟩
  have h8 := hM.2
  have e0 : (0 : Int32) = nI 0 := rfl
  have e2 : (2 : Int32) * nI men - 1 = nI (2 * men - 1) := by
    rw [show (2 : Int32) * nI men = nI (2 * men) from pk_mul 2 men]; exact pk_sub (show 1 ≤ 2 * men by omega)
  rw [e_Text_readClause]
  simp only [s_Text_readClause_0, s_Text_readClause_1 rcv_13, word_in hm en hn he, Option.bind_some, Option.toList_some, List.cons_append, List.nil_append]
  unfold clF
  generalize hs1 : nxS I n e = s1 at h1 ⊢
  generalize he1 : nxE I n e = e1 at h1 h2 ⊢
  cases q : wdF (I 14) s1 e1 8 0 with
  | none => simp only [opI, s_Text_readClause_0, s_Text_readClause_1 rcv_13, s_Text_readClause_4, s_Text_readClause_5, s_Text_readClause_6, s_Text_readClause_7, s_Text_readClause_10, rz_Text_readClause_11, ro_Text_readClause_11, s_Text_readClause_12, s_Text_readClause_13, s_Text_readClause_16, rz_Text_readClause_20, ro_Text_readClause_20, s_Text_readClause_21, s_Text_readClause_22, s_Text_readClause_23, s_Text_readClause_24, s_Text_readClause_25, s_Text_readClause_28, s_Text_readClause_31, s_Text_readClause_32, s_Text_readClause_33, s_Text_readClause_37, s_Text_readClause_38, s_Text_readClause_39, s_Text_readClause_42, s_Text_readClause_46, s_Text_readClause_49, rz_Text_readClause_50, ro_Text_readClause_50, s_Text_readClause_51, s_Text_readClause_52, s_Text_readClause_53, s_Text_readClause_56, s_Text_readClause_57, s_Text_readClause_60, s_Text_readClause_63, s_Text_readClause_64, s_Text_readClause_65, s_Text_readClause_66, s_Text_readClause_67, s_Text_readClause_68, rz_Text_readClause_69, ro_Text_readClause_69, s_Text_readClause_70, s_Text_readClause_71, s_Text_readClause_73, s_Text_readClause_76, s_Text_readClause_77, s_Text_readClause_81, s_Text_readClause_84, s_Text_readClause_85, rz_Text_readClause_89, ro_Text_readClause_89, if_true, okO, actO]
  | some w =>
    have hw := wdF_lt _ _ q
    by_cases q0 : w = 0
    · subst q0
      simp only [opI, s_Text_readClause_0, s_Text_readClause_1 rcv_13, s_Text_readClause_4, s_Text_readClause_5, s_Text_readClause_6, s_Text_readClause_7, s_Text_readClause_10, rz_Text_readClause_11, ro_Text_readClause_11, s_Text_readClause_12, s_Text_readClause_13, s_Text_readClause_16, rz_Text_readClause_20, ro_Text_readClause_20, s_Text_readClause_21, s_Text_readClause_22, s_Text_readClause_23, s_Text_readClause_24, s_Text_readClause_25, s_Text_readClause_28, s_Text_readClause_31, s_Text_readClause_32, s_Text_readClause_33, s_Text_readClause_37, s_Text_readClause_38, s_Text_readClause_39, s_Text_readClause_42, s_Text_readClause_46, s_Text_readClause_49, rz_Text_readClause_50, ro_Text_readClause_50, s_Text_readClause_51, s_Text_readClause_52, s_Text_readClause_53, s_Text_readClause_56, s_Text_readClause_57, s_Text_readClause_60, s_Text_readClause_63, s_Text_readClause_64, s_Text_readClause_65, s_Text_readClause_66, s_Text_readClause_67, s_Text_readClause_68, rz_Text_readClause_69, ro_Text_readClause_69, s_Text_readClause_70, s_Text_readClause_71, s_Text_readClause_73, s_Text_readClause_76, s_Text_readClause_77, s_Text_readClause_81, s_Text_readClause_84, s_Text_readClause_85, rz_Text_readClause_89, ro_Text_readClause_89, if_neg (op_ne (show 0 < 2 ^ 31 by decide)), if_pos (show nI 0 = (0 : Int32) from rfl), s_Text_readClause_17 rcv_13, rArmy_in en hn h1.2, if_true]
      cases q1 : numN (I 14) n (nxS I n e1) (nxE I n e1) 1 4 with
      | none => simp only [Option.bind_some, Option.toList_some, List.cons_append, List.nil_append, s_Text_readClause_0, s_Text_readClause_1 rcv_13, s_Text_readClause_4, s_Text_readClause_5, s_Text_readClause_6, s_Text_readClause_7, s_Text_readClause_10, rz_Text_readClause_11, ro_Text_readClause_11, s_Text_readClause_12, s_Text_readClause_13, s_Text_readClause_16, rz_Text_readClause_20, ro_Text_readClause_20, s_Text_readClause_21, s_Text_readClause_22, s_Text_readClause_23, s_Text_readClause_24, s_Text_readClause_25, s_Text_readClause_28, s_Text_readClause_31, s_Text_readClause_32, s_Text_readClause_33, s_Text_readClause_37, s_Text_readClause_38, s_Text_readClause_39, s_Text_readClause_42, s_Text_readClause_46, s_Text_readClause_49, rz_Text_readClause_50, ro_Text_readClause_50, s_Text_readClause_51, s_Text_readClause_52, s_Text_readClause_53, s_Text_readClause_56, s_Text_readClause_57, s_Text_readClause_60, s_Text_readClause_63, s_Text_readClause_64, s_Text_readClause_65, s_Text_readClause_66, s_Text_readClause_67, s_Text_readClause_68, rz_Text_readClause_69, ro_Text_readClause_69, s_Text_readClause_70, s_Text_readClause_71, s_Text_readClause_73, s_Text_readClause_76, s_Text_readClause_77, s_Text_readClause_81, s_Text_readClause_84, s_Text_readClause_85, rz_Text_readClause_89, ro_Text_readClause_89, okO, actO]
      | some v => simp only [Option.bind_some, Option.toList_some, List.cons_append, List.nil_append, s_Text_readClause_0, s_Text_readClause_1 rcv_13, s_Text_readClause_4, s_Text_readClause_5, s_Text_readClause_6, s_Text_readClause_7, s_Text_readClause_10, rz_Text_readClause_11, ro_Text_readClause_11, s_Text_readClause_12, s_Text_readClause_13, s_Text_readClause_16, rz_Text_readClause_20, ro_Text_readClause_20, s_Text_readClause_21, s_Text_readClause_22, s_Text_readClause_23, s_Text_readClause_24, s_Text_readClause_25, s_Text_readClause_28, s_Text_readClause_31, s_Text_readClause_32, s_Text_readClause_33, s_Text_readClause_37, s_Text_readClause_38, s_Text_readClause_39, s_Text_readClause_42, s_Text_readClause_46, s_Text_readClause_49, rz_Text_readClause_50, ro_Text_readClause_50, s_Text_readClause_51, s_Text_readClause_52, s_Text_readClause_53, s_Text_readClause_56, s_Text_readClause_57, s_Text_readClause_60, s_Text_readClause_63, s_Text_readClause_64, s_Text_readClause_65, s_Text_readClause_66, s_Text_readClause_67, s_Text_readClause_68, rz_Text_readClause_69, ro_Text_readClause_69, s_Text_readClause_70, s_Text_readClause_71, s_Text_readClause_73, s_Text_readClause_76, s_Text_readClause_77, s_Text_readClause_81, s_Text_readClause_84, s_Text_readClause_85, rz_Text_readClause_89, ro_Text_readClause_89, okO, actO, if_true]
    · have hw0 : ¬ nI w = (0 : Int32) := nI_ne0 (by omega) (by omega)
      simp only [opI, s_Text_readClause_0, s_Text_readClause_1 rcv_13, s_Text_readClause_4, s_Text_readClause_5, s_Text_readClause_6, s_Text_readClause_7, s_Text_readClause_10, rz_Text_readClause_11, ro_Text_readClause_11, s_Text_readClause_12, s_Text_readClause_13, s_Text_readClause_16, rz_Text_readClause_20, ro_Text_readClause_20, s_Text_readClause_21, s_Text_readClause_22, s_Text_readClause_23, s_Text_readClause_24, s_Text_readClause_25, s_Text_readClause_28, s_Text_readClause_31, s_Text_readClause_32, s_Text_readClause_33, s_Text_readClause_37, s_Text_readClause_38, s_Text_readClause_39, s_Text_readClause_42, s_Text_readClause_46, s_Text_readClause_49, rz_Text_readClause_50, ro_Text_readClause_50, s_Text_readClause_51, s_Text_readClause_52, s_Text_readClause_53, s_Text_readClause_56, s_Text_readClause_57, s_Text_readClause_60, s_Text_readClause_63, s_Text_readClause_64, s_Text_readClause_65, s_Text_readClause_66, s_Text_readClause_67, s_Text_readClause_68, rz_Text_readClause_69, ro_Text_readClause_69, s_Text_readClause_70, s_Text_readClause_71, s_Text_readClause_73, s_Text_readClause_76, s_Text_readClause_77, s_Text_readClause_81, s_Text_readClause_84, s_Text_readClause_85, rz_Text_readClause_89, ro_Text_readClause_89, if_neg (op_ne (show w < 2 ^ 31 by omega)), if_neg hw0, if_neg q0, g_13_1, g_15_3, (hM' _ _).1, e2, s_Text_readClause_34 rcv_13]
      rw [e0]
      simp only [num_in en hn h1.2 (show 0 < 100 by decide) (show 2 * men - 1 < 100 by omega), Option.bind_some, Option.toList_some, List.cons_append, List.nil_append]
      generalize hs2 : nxS I n e1 = s2 at h2 ⊢
      generalize he2 : nxE I n e1 = e2' at h2 ⊢
      cases q1 : numN (I 14) n s2 e2' 0 (2 * men - 1) with
      | none =>
        simp only [opI, s_Text_readClause_0, s_Text_readClause_1 rcv_13, s_Text_readClause_4, s_Text_readClause_5, s_Text_readClause_6, s_Text_readClause_7, s_Text_readClause_10, rz_Text_readClause_11, ro_Text_readClause_11, s_Text_readClause_12, s_Text_readClause_13, s_Text_readClause_16, rz_Text_readClause_20, ro_Text_readClause_20, s_Text_readClause_21, s_Text_readClause_22, s_Text_readClause_23, s_Text_readClause_24, s_Text_readClause_25, s_Text_readClause_28, s_Text_readClause_31, s_Text_readClause_32, s_Text_readClause_33, s_Text_readClause_37, s_Text_readClause_38, s_Text_readClause_39, s_Text_readClause_42, s_Text_readClause_46, s_Text_readClause_49, rz_Text_readClause_50, ro_Text_readClause_50, s_Text_readClause_51, s_Text_readClause_52, s_Text_readClause_53, s_Text_readClause_56, s_Text_readClause_57, s_Text_readClause_60, s_Text_readClause_63, s_Text_readClause_64, s_Text_readClause_65, s_Text_readClause_66, s_Text_readClause_67, s_Text_readClause_68, rz_Text_readClause_69, ro_Text_readClause_69, s_Text_readClause_70, s_Text_readClause_71, s_Text_readClause_73, s_Text_readClause_76, s_Text_readClause_77, s_Text_readClause_81, s_Text_readClause_84, s_Text_readClause_85, rz_Text_readClause_89, ro_Text_readClause_89, g_13_1, s_Text_readClause_43 (ar_rcv ar_15), has_eq ar_15, if_pos (show (-1 : Int32) < 0 by decide), Option.bind_some, Option.toList_some, List.cons_append, List.nil_append, if_true, okO, actO]
      | some m =>
        have hv := num_lt q1
        have e5 : (5 : Int32) = nI 5 := rfl
        have e6 : (6 : Int32) = nI 6 := rfl
        simp only [opI, s_Text_readClause_0, s_Text_readClause_1 rcv_13, s_Text_readClause_4, s_Text_readClause_5, s_Text_readClause_6, s_Text_readClause_7, s_Text_readClause_10, rz_Text_readClause_11, ro_Text_readClause_11, s_Text_readClause_12, s_Text_readClause_13, s_Text_readClause_16, rz_Text_readClause_20, ro_Text_readClause_20, s_Text_readClause_21, s_Text_readClause_22, s_Text_readClause_23, s_Text_readClause_24, s_Text_readClause_25, s_Text_readClause_28, s_Text_readClause_31, s_Text_readClause_32, s_Text_readClause_33, s_Text_readClause_37, s_Text_readClause_38, s_Text_readClause_39, s_Text_readClause_42, s_Text_readClause_46, s_Text_readClause_49, rz_Text_readClause_50, ro_Text_readClause_50, s_Text_readClause_51, s_Text_readClause_52, s_Text_readClause_53, s_Text_readClause_56, s_Text_readClause_57, s_Text_readClause_60, s_Text_readClause_63, s_Text_readClause_64, s_Text_readClause_65, s_Text_readClause_66, s_Text_readClause_67, s_Text_readClause_68, rz_Text_readClause_69, ro_Text_readClause_69, s_Text_readClause_70, s_Text_readClause_71, s_Text_readClause_73, s_Text_readClause_76, s_Text_readClause_77, s_Text_readClause_81, s_Text_readClause_84, s_Text_readClause_85, rz_Text_readClause_89, ro_Text_readClause_89, g_13_1, s_Text_readClause_43 (ar_rcv ar_15), has_in ar_15 (hM' _ _) (show m < 2 * men by omega), Option.bind_some, Option.toList_some, List.cons_append, List.nil_append, if_neg (show ¬ (1 : Int32) = 0 by decide), g_15_0, e5]
        by_cases q2 : w ≤ 5
        · simp only [if_neg (nI_nlt q2 (show 5 < 2 ^ 31 by decide)), show nI w - 1 = nI (w - 1) from pk_sub (show 1 ≤ w by omega), pi_16, at_in (show m < 8 by omega) (show 8 < 2 ^ 31 by decide), nI_clamp (show m < 2 ^ 31 by omega), ti_up (show 16 ≠ 13 by decide), s_Text_readClause_0, s_Text_readClause_1 rcv_13, s_Text_readClause_4, s_Text_readClause_5, s_Text_readClause_6, s_Text_readClause_7, s_Text_readClause_10, rz_Text_readClause_11, ro_Text_readClause_11, s_Text_readClause_12, s_Text_readClause_13, s_Text_readClause_16, rz_Text_readClause_20, ro_Text_readClause_20, s_Text_readClause_21, s_Text_readClause_22, s_Text_readClause_23, s_Text_readClause_24, s_Text_readClause_25, s_Text_readClause_28, s_Text_readClause_31, s_Text_readClause_32, s_Text_readClause_33, s_Text_readClause_37, s_Text_readClause_38, s_Text_readClause_39, s_Text_readClause_42, s_Text_readClause_46, s_Text_readClause_49, rz_Text_readClause_50, ro_Text_readClause_50, s_Text_readClause_51, s_Text_readClause_52, s_Text_readClause_53, s_Text_readClause_56, s_Text_readClause_57, s_Text_readClause_60, s_Text_readClause_63, s_Text_readClause_64, s_Text_readClause_65, s_Text_readClause_66, s_Text_readClause_67, s_Text_readClause_68, rz_Text_readClause_69, ro_Text_readClause_69, s_Text_readClause_70, s_Text_readClause_71, s_Text_readClause_73, s_Text_readClause_76, s_Text_readClause_77, s_Text_readClause_81, s_Text_readClause_84, s_Text_readClause_85, rz_Text_readClause_89, ro_Text_readClause_89, if_pos q2, okO, actO, if_neg q0]
        · simp only [if_pos (nI_lt (show 5 < w by omega) (show w < 2 ^ 31 by omega)), s_Text_readClause_0, s_Text_readClause_1 rcv_13, s_Text_readClause_4, s_Text_readClause_5, s_Text_readClause_6, s_Text_readClause_7, s_Text_readClause_10, rz_Text_readClause_11, ro_Text_readClause_11, s_Text_readClause_12, s_Text_readClause_13, s_Text_readClause_16, rz_Text_readClause_20, ro_Text_readClause_20, s_Text_readClause_21, s_Text_readClause_22, s_Text_readClause_23, s_Text_readClause_24, s_Text_readClause_25, s_Text_readClause_28, s_Text_readClause_31, s_Text_readClause_32, s_Text_readClause_33, s_Text_readClause_37, s_Text_readClause_38, s_Text_readClause_39, s_Text_readClause_42, s_Text_readClause_46, s_Text_readClause_49, rz_Text_readClause_50, ro_Text_readClause_50, s_Text_readClause_51, s_Text_readClause_52, s_Text_readClause_53, s_Text_readClause_56, s_Text_readClause_57, s_Text_readClause_60, s_Text_readClause_63, s_Text_readClause_64, s_Text_readClause_65, s_Text_readClause_66, s_Text_readClause_67, s_Text_readClause_68, rz_Text_readClause_69, ro_Text_readClause_69, s_Text_readClause_70, s_Text_readClause_71, s_Text_readClause_73, s_Text_readClause_76, s_Text_readClause_77, s_Text_readClause_81, s_Text_readClause_84, s_Text_readClause_85, rz_Text_readClause_89, ro_Text_readClause_89, if_neg q2, e6, nI_eq (show w < 2 ^ 31 by omega) (show 6 < 2 ^ 31 by decide)]
          by_cases q3 : w = 6
          · simp only [if_pos q3, s_Text_readClause_0, s_Text_readClause_1 rcv_13, s_Text_readClause_4, s_Text_readClause_5, s_Text_readClause_6, s_Text_readClause_7, s_Text_readClause_10, rz_Text_readClause_11, ro_Text_readClause_11, s_Text_readClause_12, s_Text_readClause_13, s_Text_readClause_16, rz_Text_readClause_20, ro_Text_readClause_20, s_Text_readClause_21, s_Text_readClause_22, s_Text_readClause_23, s_Text_readClause_24, s_Text_readClause_25, s_Text_readClause_28, s_Text_readClause_31, s_Text_readClause_32, s_Text_readClause_33, s_Text_readClause_37, s_Text_readClause_38, s_Text_readClause_39, s_Text_readClause_42, s_Text_readClause_46, s_Text_readClause_49, rz_Text_readClause_50, ro_Text_readClause_50, s_Text_readClause_51, s_Text_readClause_52, s_Text_readClause_53, s_Text_readClause_56, s_Text_readClause_57, s_Text_readClause_60, s_Text_readClause_63, s_Text_readClause_64, s_Text_readClause_65, s_Text_readClause_66, s_Text_readClause_67, s_Text_readClause_68, rz_Text_readClause_69, ro_Text_readClause_69, s_Text_readClause_70, s_Text_readClause_71, s_Text_readClause_73, s_Text_readClause_76, s_Text_readClause_77, s_Text_readClause_81, s_Text_readClause_84, s_Text_readClause_85, rz_Text_readClause_89, ro_Text_readClause_89, s_Text_readClause_78 rcv_13, rBut_in hM (show m < 2 * men by omega) en hn h2.2]
            cases q4 : numN (I 14) n (nxS I n e2') (nxE I n e2') 0 6 with
            | none => simp only [Option.bind_some, Option.toList_some, List.cons_append, List.nil_append, s_Text_readClause_0, s_Text_readClause_1 rcv_13, s_Text_readClause_4, s_Text_readClause_5, s_Text_readClause_6, s_Text_readClause_7, s_Text_readClause_10, rz_Text_readClause_11, ro_Text_readClause_11, s_Text_readClause_12, s_Text_readClause_13, s_Text_readClause_16, rz_Text_readClause_20, ro_Text_readClause_20, s_Text_readClause_21, s_Text_readClause_22, s_Text_readClause_23, s_Text_readClause_24, s_Text_readClause_25, s_Text_readClause_28, s_Text_readClause_31, s_Text_readClause_32, s_Text_readClause_33, s_Text_readClause_37, s_Text_readClause_38, s_Text_readClause_39, s_Text_readClause_42, s_Text_readClause_46, s_Text_readClause_49, rz_Text_readClause_50, ro_Text_readClause_50, s_Text_readClause_51, s_Text_readClause_52, s_Text_readClause_53, s_Text_readClause_56, s_Text_readClause_57, s_Text_readClause_60, s_Text_readClause_63, s_Text_readClause_64, s_Text_readClause_65, s_Text_readClause_66, s_Text_readClause_67, s_Text_readClause_68, rz_Text_readClause_69, ro_Text_readClause_69, s_Text_readClause_70, s_Text_readClause_71, s_Text_readClause_73, s_Text_readClause_76, s_Text_readClause_77, s_Text_readClause_81, s_Text_readClause_84, s_Text_readClause_85, rz_Text_readClause_89, ro_Text_readClause_89, okO, actO]
            | some v => simp only [Option.bind_some, Option.toList_some, List.cons_append, List.nil_append, s_Text_readClause_0, s_Text_readClause_1 rcv_13, s_Text_readClause_4, s_Text_readClause_5, s_Text_readClause_6, s_Text_readClause_7, s_Text_readClause_10, rz_Text_readClause_11, ro_Text_readClause_11, s_Text_readClause_12, s_Text_readClause_13, s_Text_readClause_16, rz_Text_readClause_20, ro_Text_readClause_20, s_Text_readClause_21, s_Text_readClause_22, s_Text_readClause_23, s_Text_readClause_24, s_Text_readClause_25, s_Text_readClause_28, s_Text_readClause_31, s_Text_readClause_32, s_Text_readClause_33, s_Text_readClause_37, s_Text_readClause_38, s_Text_readClause_39, s_Text_readClause_42, s_Text_readClause_46, s_Text_readClause_49, rz_Text_readClause_50, ro_Text_readClause_50, s_Text_readClause_51, s_Text_readClause_52, s_Text_readClause_53, s_Text_readClause_56, s_Text_readClause_57, s_Text_readClause_60, s_Text_readClause_63, s_Text_readClause_64, s_Text_readClause_65, s_Text_readClause_66, s_Text_readClause_67, s_Text_readClause_68, rz_Text_readClause_69, ro_Text_readClause_69, s_Text_readClause_70, s_Text_readClause_71, s_Text_readClause_73, s_Text_readClause_76, s_Text_readClause_77, s_Text_readClause_81, s_Text_readClause_84, s_Text_readClause_85, rz_Text_readClause_89, ro_Text_readClause_89, okO, actO, if_neg (show ¬ (6 : Nat) = 0 by decide), if_neg (show ¬ (6 : Nat) ≤ 5 by decide), if_true]
          · simp only [if_neg q3, s_Text_readClause_0, s_Text_readClause_1 rcv_13, s_Text_readClause_4, s_Text_readClause_5, s_Text_readClause_6, s_Text_readClause_7, s_Text_readClause_10, rz_Text_readClause_11, ro_Text_readClause_11, s_Text_readClause_12, s_Text_readClause_13, s_Text_readClause_16, rz_Text_readClause_20, ro_Text_readClause_20, s_Text_readClause_21, s_Text_readClause_22, s_Text_readClause_23, s_Text_readClause_24, s_Text_readClause_25, s_Text_readClause_28, s_Text_readClause_31, s_Text_readClause_32, s_Text_readClause_33, s_Text_readClause_37, s_Text_readClause_38, s_Text_readClause_39, s_Text_readClause_42, s_Text_readClause_46, s_Text_readClause_49, rz_Text_readClause_50, ro_Text_readClause_50, s_Text_readClause_51, s_Text_readClause_52, s_Text_readClause_53, s_Text_readClause_56, s_Text_readClause_57, s_Text_readClause_60, s_Text_readClause_63, s_Text_readClause_64, s_Text_readClause_65, s_Text_readClause_66, s_Text_readClause_67, s_Text_readClause_68, rz_Text_readClause_69, ro_Text_readClause_69, s_Text_readClause_70, s_Text_readClause_71, s_Text_readClause_73, s_Text_readClause_76, s_Text_readClause_77, s_Text_readClause_81, s_Text_readClause_84, s_Text_readClause_85, rz_Text_readClause_89, ro_Text_readClause_89, s_Text_readClause_86 rcv_13, rMen_in hM (show m < 2 * men by omega) en hn h2.2]
            cases q4 : numN (I 14) n (nxS I n e2') (nxE I n e2') (oth men m) (oth men m + men - 1) with
            | none => simp only [Option.bind_some, Option.toList_some, List.cons_append, List.nil_append, s_Text_readClause_0, s_Text_readClause_1 rcv_13, s_Text_readClause_4, s_Text_readClause_5, s_Text_readClause_6, s_Text_readClause_7, s_Text_readClause_10, rz_Text_readClause_11, ro_Text_readClause_11, s_Text_readClause_12, s_Text_readClause_13, s_Text_readClause_16, rz_Text_readClause_20, ro_Text_readClause_20, s_Text_readClause_21, s_Text_readClause_22, s_Text_readClause_23, s_Text_readClause_24, s_Text_readClause_25, s_Text_readClause_28, s_Text_readClause_31, s_Text_readClause_32, s_Text_readClause_33, s_Text_readClause_37, s_Text_readClause_38, s_Text_readClause_39, s_Text_readClause_42, s_Text_readClause_46, s_Text_readClause_49, rz_Text_readClause_50, ro_Text_readClause_50, s_Text_readClause_51, s_Text_readClause_52, s_Text_readClause_53, s_Text_readClause_56, s_Text_readClause_57, s_Text_readClause_60, s_Text_readClause_63, s_Text_readClause_64, s_Text_readClause_65, s_Text_readClause_66, s_Text_readClause_67, s_Text_readClause_68, rz_Text_readClause_69, ro_Text_readClause_69, s_Text_readClause_70, s_Text_readClause_71, s_Text_readClause_73, s_Text_readClause_76, s_Text_readClause_77, s_Text_readClause_81, s_Text_readClause_84, s_Text_readClause_85, rz_Text_readClause_89, ro_Text_readClause_89, okO, actO]
            | some v => simp only [Option.bind_some, Option.toList_some, List.cons_append, List.nil_append, s_Text_readClause_0, s_Text_readClause_1 rcv_13, s_Text_readClause_4, s_Text_readClause_5, s_Text_readClause_6, s_Text_readClause_7, s_Text_readClause_10, rz_Text_readClause_11, ro_Text_readClause_11, s_Text_readClause_12, s_Text_readClause_13, s_Text_readClause_16, rz_Text_readClause_20, ro_Text_readClause_20, s_Text_readClause_21, s_Text_readClause_22, s_Text_readClause_23, s_Text_readClause_24, s_Text_readClause_25, s_Text_readClause_28, s_Text_readClause_31, s_Text_readClause_32, s_Text_readClause_33, s_Text_readClause_37, s_Text_readClause_38, s_Text_readClause_39, s_Text_readClause_42, s_Text_readClause_46, s_Text_readClause_49, rz_Text_readClause_50, ro_Text_readClause_50, s_Text_readClause_51, s_Text_readClause_52, s_Text_readClause_53, s_Text_readClause_56, s_Text_readClause_57, s_Text_readClause_60, s_Text_readClause_63, s_Text_readClause_64, s_Text_readClause_65, s_Text_readClause_66, s_Text_readClause_67, s_Text_readClause_68, rz_Text_readClause_69, ro_Text_readClause_69, s_Text_readClause_70, s_Text_readClause_71, s_Text_readClause_73, s_Text_readClause_76, s_Text_readClause_77, s_Text_readClause_81, s_Text_readClause_84, s_Text_readClause_85, rz_Text_readClause_89, ro_Text_readClause_89, okO, actO, if_neg (show ¬ (7 : Nat) = 0 by decide), if_neg (show ¬ (7 : Nat) ≤ 5 by decide), if_neg (show ¬ (7 : Nat) = 6 by decide)]
end Txt
