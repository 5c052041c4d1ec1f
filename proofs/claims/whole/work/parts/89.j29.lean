/-! ===== the Model: readsClause ===== -/
section Mtx
variable {F : jx_F} {lv : Nat} {X : Nat → Nat → Int32} {J : Nat → Nat → Int64} {s e n men : Nat}
theorem mcl_in {dv : Int32} (hW : pWord X) (h4 : 1 ≤ men ∧ men ≤ 4) (en : X 73 4 = nI n) (em : X 73 14 = nI men) (ed : X 73 16 = dv) (hn : n ≤ 200) (he : e ≤ n) : ∃ X', match (clF (KX X) n men e).1 with
    | none => rn F (lv + 5) 119 [.ref 73] (HH (MI X (nxS (KX X) n e) (nxE (KX X) n e)) J) = some (some (.int 0), HH (MI X' (clF (KX X) n men e).2.1 (clF (KX X) n men e).2.2) J) ∧ RN X X'
    | some a => rn F (lv + 5) 119 [.ref 73] (HH (MI X (nxS (KX X) n e) (nxE (KX X) n e)) J) = some (some (.int 1), HH (MI X' (nxS (KX X) n (clF (KX X) n men e).2.2) (nxE (KX X) n (clF (KX X) n men e).2.2)) J) ∧ RC X X' dv men a := by
  have h1 := nx_e (I := KX X) he
  have k := mknd_in (F := F) (lv := lv + 3) (J := J) hW h1.1 (show nxE (KX X) n e ≤ 200 by omega)
  have i0 := isw_in (F := F) (lv := lv + 4) (J := J) (w := 0) hW (by decide) h1.1 (show nxE (KX X) n e ≤ 200 by omega)
  have i6 := isw_in (F := F) (lv := lv + 4) (J := J) (w := 6) hW (by decide) h1.1 (show nxE (KX X) n e ≤ 200 by omega)
  have i7 := isw_in (F := F) (lv := lv + 4) (J := J) (w := 7) hW (by decide) h1.1 (show nxE (KX X) n e ≤ 200 by omega)
  rw [show (84 + 0 : Nat) = 84 from rfl] at i0
  rw [show (84 + 6 : Nat) = 90 from rfl] at i6
  rw [show (84 + 7 : Nat) = 91 from rfl] at i7
  have ek : (KX X) 14 = X 76 := rfl
  -- a kind's word
  have kindW : ∀ kd, kd ≤ 4 → (if tokW (X 76) (nxS (KX X) n e) (nxE (KX X) n e) 1 = 0 then (if tokW (X 76) (nxS (KX X) n e) (nxE (KX X) n e) 2 = 0 then (if tokW (X 76) (nxS (KX X) n e) (nxE (KX X) n e) 3 = 0 then (if tokW (X 76) (nxS (KX X) n e) (nxE (KX X) n e) 4 = 0 then (if tokW (X 76) (nxS (KX X) n e) (nxE (KX X) n e) 5 = 0 then (-1 : Int32) else 4) else 3) else 2) else 1) else 0) = nI kd →
      ∃ X', match numN (X 76) n (nxS (KX X) n (nxE (KX X) n e)) (nxE (KX X) n (nxE (KX X) n e)) 0 (2 * men - 1) with
        | none => rn F (lv + 5) 119 [.ref 73] (HH (MI X (nxS (KX X) n e) (nxE (KX X) n e)) J) = some (some (.int 0), HH (MI X' (nxS (KX X) n (nxE (KX X) n e)) (nxE (KX X) n (nxE (KX X) n e))) J) ∧ RN X X'
        | some m => rn F (lv + 5) 119 [.ref 73] (HH (MI X (nxS (KX X) n e) (nxE (KX X) n e)) J) = some (some (.int 1), HH (MI X' (nxS (KX X) n (nxE (KX X) n (nxE (KX X) n e))) (nxE (KX X) n (nxE (KX X) n (nxE (KX X) n e)))) J) ∧ RC X X' dv men (kd + 1, m, 0) := by
    intro kd hkd ekd
    rw [ekd] at k
    obtain ⟨X', r⟩ := mrK_in (F := F) (lv := lv) (J := J) (s := nxS (KX X) n e) (e := nxE (KX X) n e) (kd := kd) h4 hkd en em ed hn h1.2
    refine ⟨X', ?_⟩
    have kn : ¬ nI kd = -1 := op_ne (by omega)
    cases q : numN (X 76) n (nxS (KX X) n (nxE (KX X) n e)) (nxE (KX X) n (nxE (KX X) n e)) 0 (2 * men - 1) with
    | none =>
      rw [q] at r
      refine ⟨?_, r.2⟩
      simp only [e_Model_readsClause, s_Model_readsClause_0, s_Model_readsClause_1 rcv_73, k, Option.bind_some, Option.toList_some, Option.toList_none, List.cons_append, List.nil_append, i10, i01, if_false, if_true, nI_add, nI_1, s_Model_readsClause_4, s_Model_readsClause_5, if_neg kn, s_Model_readsClause_8, s_Model_readsClause_9, s_Model_readsClause_10 rcv_73, s_Model_readsClause_13 rcv_73, r.1, rz_Model_readsClause_16]
    | some m =>
      rw [q] at r
      refine ⟨?_, r.2⟩
      simp only [e_Model_readsClause, s_Model_readsClause_0, s_Model_readsClause_1 rcv_73, k, Option.bind_some, Option.toList_some, Option.toList_none, List.cons_append, List.nil_append, i10, i01, if_false, if_true, nI_add, nI_1, s_Model_readsClause_4, s_Model_readsClause_5, if_neg kn, s_Model_readsClause_8, s_Model_readsClause_9, s_Model_readsClause_10 rcv_73, s_Model_readsClause_13 rcv_73, r.1, ro_Model_readsClause_16]
  unfold clF
  rw [ek]
  cases q : wdF (X 76) (nxS (KX X) n e) (nxE (KX X) n e) 8 0 with
  | none =>
    have z := wd_none 8 0 q
    rw [z 1 (by decide) (by decide), z 2 (by decide) (by decide), z 3 (by decide) (by decide), z 4 (by decide) (by decide), z 5 (by decide) (by decide)] at k
    rw [z 0 (by decide) (by decide)] at i0
    rw [z 6 (by decide) (by decide)] at i6
    rw [z 7 (by decide) (by decide)] at i7
    refine ⟨X, ?_, fun _ _ => rfl⟩
    simp only [e_Model_readsClause, s_Model_readsClause_0, s_Model_readsClause_1 rcv_73, s_Model_readsClause_4, s_Model_readsClause_5, s_Model_readsClause_8, s_Model_readsClause_9, s_Model_readsClause_10 rcv_73, s_Model_readsClause_13 rcv_73, s_Model_readsClause_17, s_Model_readsClause_18, s_Model_readsClause_19, s_Model_readsClause_22 rcv_73, s_Model_readsClause_25, s_Model_readsClause_28, s_Model_readsClause_29 rcv_73, s_Model_readsClause_32, s_Model_readsClause_35, s_Model_readsClause_36, s_Model_readsClause_37, s_Model_readsClause_40 rcv_73, s_Model_readsClause_43, s_Model_readsClause_46, s_Model_readsClause_47 rcv_73, s_Model_readsClause_50, s_Model_readsClause_53, s_Model_readsClause_54, s_Model_readsClause_55, s_Model_readsClause_58 rcv_73, s_Model_readsClause_61, s_Model_readsClause_64, s_Model_readsClause_65 rcv_73, s_Model_readsClause_68, s_Model_readsClause_71, s_Model_readsClause_72, s_Model_readsClause_75, rz_Model_readsClause_76, ro_Model_readsClause_76, k, i0, i6, i7, Option.bind_some, Option.toList_some, Option.toList_none, List.cons_append, List.nil_append, i10, i01, if_false, if_true, nI_add, nI_1, g_73_18, g_73_24, g_73_25]
  | some w =>
    have hw := wdF_lt _ _ q
    have hw8 : w < 8 := by omega
    have hne := wd_some 8 0 q
    have z : ∀ v, v < 8 → v ≠ w → tokW (X 76) (nxS (KX X) n e) (nxE (KX X) n e) v = 0 := fun v hv ne => tok_oth hw8 hv hne ne
    have kz : (w = 0 ∨ w = 6 ∨ w = 7) → rn F (lv + 4) 114 [.ref 73] (HH (MI X (nxS (KX X) n e) (nxE (KX X) n e)) J) = some (some (.int (-1)), HH (MI X (nxS (KX X) n e) (nxE (KX X) n e)) J) := by
      intro h
      have k' := k
      rw [z 1 (by decide) (by omega), z 2 (by decide) (by omega), z 3 (by decide) (by omega), z 4 (by decide) (by omega), z 5 (by decide) (by omega)] at k'
      exact k'
    match w, hw8 with
    | 0, _ =>
      obtain ⟨X', r⟩ := mrA_in (F := F) (lv := lv) (J := J) (men := men) (s := nxS (KX X) n e) (e := nxE (KX X) n e) en ed hn h1.2
      refine ⟨X', ?_⟩
      dsimp only
      rw [if_pos rfl]
      cases q1 : numN (X 76) n (nxS (KX X) n (nxE (KX X) n e)) (nxE (KX X) n (nxE (KX X) n e)) 1 4 with
      | none =>
        rw [q1] at r
        refine ⟨?_, r.2⟩
        simp only [e_Model_readsClause, s_Model_readsClause_0, s_Model_readsClause_1 rcv_73, s_Model_readsClause_4, s_Model_readsClause_5, s_Model_readsClause_8, s_Model_readsClause_9, s_Model_readsClause_10 rcv_73, s_Model_readsClause_13 rcv_73, s_Model_readsClause_17, s_Model_readsClause_18, s_Model_readsClause_19, s_Model_readsClause_22 rcv_73, s_Model_readsClause_25, s_Model_readsClause_28, s_Model_readsClause_29 rcv_73, s_Model_readsClause_32, s_Model_readsClause_35, s_Model_readsClause_36, s_Model_readsClause_37, s_Model_readsClause_40 rcv_73, s_Model_readsClause_43, s_Model_readsClause_46, s_Model_readsClause_47 rcv_73, s_Model_readsClause_50, s_Model_readsClause_53, s_Model_readsClause_54, s_Model_readsClause_55, s_Model_readsClause_58 rcv_73, s_Model_readsClause_61, s_Model_readsClause_64, s_Model_readsClause_65 rcv_73, s_Model_readsClause_68, s_Model_readsClause_71, s_Model_readsClause_72, s_Model_readsClause_75, rz_Model_readsClause_76, ro_Model_readsClause_76, kz (Or.inl rfl), i0, if_neg hne, Option.bind_some, Option.toList_some, Option.toList_none, List.cons_append, List.nil_append, i10, i01, if_false, if_true, nI_add, nI_1, g_73_18, r.1]
      | some v =>
        rw [q1] at r
        refine ⟨?_, r.2⟩
        simp only [e_Model_readsClause, s_Model_readsClause_0, s_Model_readsClause_1 rcv_73, s_Model_readsClause_4, s_Model_readsClause_5, s_Model_readsClause_8, s_Model_readsClause_9, s_Model_readsClause_10 rcv_73, s_Model_readsClause_13 rcv_73, s_Model_readsClause_17, s_Model_readsClause_18, s_Model_readsClause_19, s_Model_readsClause_22 rcv_73, s_Model_readsClause_25, s_Model_readsClause_28, s_Model_readsClause_29 rcv_73, s_Model_readsClause_32, s_Model_readsClause_35, s_Model_readsClause_36, s_Model_readsClause_37, s_Model_readsClause_40 rcv_73, s_Model_readsClause_43, s_Model_readsClause_46, s_Model_readsClause_47 rcv_73, s_Model_readsClause_50, s_Model_readsClause_53, s_Model_readsClause_54, s_Model_readsClause_55, s_Model_readsClause_58 rcv_73, s_Model_readsClause_61, s_Model_readsClause_64, s_Model_readsClause_65 rcv_73, s_Model_readsClause_68, s_Model_readsClause_71, s_Model_readsClause_72, s_Model_readsClause_75, rz_Model_readsClause_76, ro_Model_readsClause_76, kz (Or.inl rfl), i0, if_neg hne, Option.bind_some, Option.toList_some, Option.toList_none, List.cons_append, List.nil_append, i10, i01, if_false, if_true, nI_add, nI_1, g_73_18, r.1]
    | 6, _ =>
      rw [z 0 (by decide) (by decide)] at i0
      obtain ⟨X', r⟩ := mrB_in (F := F) (lv := lv) (J := J) (s := nxS (KX X) n e) (e := nxE (KX X) n e) h4 en em ed hn h1.2
      refine ⟨X', ?_⟩
      dsimp only
      rw [if_neg (show ¬ (6 : Nat) = 0 by decide)]
      cases q1 : numN (X 76) n (nxS (KX X) n (nxE (KX X) n e)) (nxE (KX X) n (nxE (KX X) n e)) 0 (2 * men - 1) with
      | none =>
        rw [q1] at r
        refine ⟨?_, r.2⟩
        simp only [e_Model_readsClause, s_Model_readsClause_0, s_Model_readsClause_1 rcv_73, s_Model_readsClause_4, s_Model_readsClause_5, s_Model_readsClause_8, s_Model_readsClause_9, s_Model_readsClause_10 rcv_73, s_Model_readsClause_13 rcv_73, s_Model_readsClause_17, s_Model_readsClause_18, s_Model_readsClause_19, s_Model_readsClause_22 rcv_73, s_Model_readsClause_25, s_Model_readsClause_28, s_Model_readsClause_29 rcv_73, s_Model_readsClause_32, s_Model_readsClause_35, s_Model_readsClause_36, s_Model_readsClause_37, s_Model_readsClause_40 rcv_73, s_Model_readsClause_43, s_Model_readsClause_46, s_Model_readsClause_47 rcv_73, s_Model_readsClause_50, s_Model_readsClause_53, s_Model_readsClause_54, s_Model_readsClause_55, s_Model_readsClause_58 rcv_73, s_Model_readsClause_61, s_Model_readsClause_64, s_Model_readsClause_65 rcv_73, s_Model_readsClause_68, s_Model_readsClause_71, s_Model_readsClause_72, s_Model_readsClause_75, rz_Model_readsClause_76, ro_Model_readsClause_76, kz (Or.inr (Or.inl rfl)), i0, i6, if_neg hne, Option.bind_some, Option.toList_some, Option.toList_none, List.cons_append, List.nil_append, i10, i01, if_false, if_true, nI_add, nI_1, g_73_18, g_73_24, r.1]
      | some m =>
        rw [q1] at r
        dsimp only at r ⊢
        rw [if_neg (show ¬ (6 : Nat) ≤ 5 by decide), if_pos rfl]
        cases q2 : numN (X 76) n (nxS (KX X) n (nxE (KX X) n (nxE (KX X) n e))) (nxE (KX X) n (nxE (KX X) n (nxE (KX X) n e))) 0 6 with
        | none =>
          rw [q2] at r
          refine ⟨?_, r.2⟩
          simp only [e_Model_readsClause, s_Model_readsClause_0, s_Model_readsClause_1 rcv_73, s_Model_readsClause_4, s_Model_readsClause_5, s_Model_readsClause_8, s_Model_readsClause_9, s_Model_readsClause_10 rcv_73, s_Model_readsClause_13 rcv_73, s_Model_readsClause_17, s_Model_readsClause_18, s_Model_readsClause_19, s_Model_readsClause_22 rcv_73, s_Model_readsClause_25, s_Model_readsClause_28, s_Model_readsClause_29 rcv_73, s_Model_readsClause_32, s_Model_readsClause_35, s_Model_readsClause_36, s_Model_readsClause_37, s_Model_readsClause_40 rcv_73, s_Model_readsClause_43, s_Model_readsClause_46, s_Model_readsClause_47 rcv_73, s_Model_readsClause_50, s_Model_readsClause_53, s_Model_readsClause_54, s_Model_readsClause_55, s_Model_readsClause_58 rcv_73, s_Model_readsClause_61, s_Model_readsClause_64, s_Model_readsClause_65 rcv_73, s_Model_readsClause_68, s_Model_readsClause_71, s_Model_readsClause_72, s_Model_readsClause_75, rz_Model_readsClause_76, ro_Model_readsClause_76, kz (Or.inr (Or.inl rfl)), i0, i6, if_neg hne, Option.bind_some, Option.toList_some, Option.toList_none, List.cons_append, List.nil_append, i10, i01, if_false, if_true, nI_add, nI_1, g_73_18, g_73_24, r.1]
        | some b =>
          rw [q2] at r
          refine ⟨?_, r.2⟩
          simp only [e_Model_readsClause, s_Model_readsClause_0, s_Model_readsClause_1 rcv_73, s_Model_readsClause_4, s_Model_readsClause_5, s_Model_readsClause_8, s_Model_readsClause_9, s_Model_readsClause_10 rcv_73, s_Model_readsClause_13 rcv_73, s_Model_readsClause_17, s_Model_readsClause_18, s_Model_readsClause_19, s_Model_readsClause_22 rcv_73, s_Model_readsClause_25, s_Model_readsClause_28, s_Model_readsClause_29 rcv_73, s_Model_readsClause_32, s_Model_readsClause_35, s_Model_readsClause_36, s_Model_readsClause_37, s_Model_readsClause_40 rcv_73, s_Model_readsClause_43, s_Model_readsClause_46, s_Model_readsClause_47 rcv_73, s_Model_readsClause_50, s_Model_readsClause_53, s_Model_readsClause_54, s_Model_readsClause_55, s_Model_readsClause_58 rcv_73, s_Model_readsClause_61, s_Model_readsClause_64, s_Model_readsClause_65 rcv_73, s_Model_readsClause_68, s_Model_readsClause_71, s_Model_readsClause_72, s_Model_readsClause_75, rz_Model_readsClause_76, ro_Model_readsClause_76, kz (Or.inr (Or.inl rfl)), i0, i6, if_neg hne, Option.bind_some, Option.toList_some, Option.toList_none, List.cons_append, List.nil_append, i10, i01, if_false, if_true, nI_add, nI_1, g_73_18, g_73_24, r.1]
    | 7, _ =>
      rw [z 0 (by decide) (by decide)] at i0
      rw [z 6 (by decide) (by decide)] at i6
      obtain ⟨X', r⟩ := mrM_in (F := F) (lv := lv) (J := J) (s := nxS (KX X) n e) (e := nxE (KX X) n e) h4 en em ed hn h1.2
      refine ⟨X', ?_⟩
      dsimp only
      rw [if_neg (show ¬ (7 : Nat) = 0 by decide)]
      cases q1 : numN (X 76) n (nxS (KX X) n (nxE (KX X) n e)) (nxE (KX X) n (nxE (KX X) n e)) 0 (2 * men - 1) with
      | none =>
        rw [q1] at r
        refine ⟨?_, r.2⟩
        simp only [e_Model_readsClause, s_Model_readsClause_0, s_Model_readsClause_1 rcv_73, s_Model_readsClause_4, s_Model_readsClause_5, s_Model_readsClause_8, s_Model_readsClause_9, s_Model_readsClause_10 rcv_73, s_Model_readsClause_13 rcv_73, s_Model_readsClause_17, s_Model_readsClause_18, s_Model_readsClause_19, s_Model_readsClause_22 rcv_73, s_Model_readsClause_25, s_Model_readsClause_28, s_Model_readsClause_29 rcv_73, s_Model_readsClause_32, s_Model_readsClause_35, s_Model_readsClause_36, s_Model_readsClause_37, s_Model_readsClause_40 rcv_73, s_Model_readsClause_43, s_Model_readsClause_46, s_Model_readsClause_47 rcv_73, s_Model_readsClause_50, s_Model_readsClause_53, s_Model_readsClause_54, s_Model_readsClause_55, s_Model_readsClause_58 rcv_73, s_Model_readsClause_61, s_Model_readsClause_64, s_Model_readsClause_65 rcv_73, s_Model_readsClause_68, s_Model_readsClause_71, s_Model_readsClause_72, s_Model_readsClause_75, rz_Model_readsClause_76, ro_Model_readsClause_76, kz (Or.inr (Or.inr rfl)), i0, i6, i7, if_neg hne, Option.bind_some, Option.toList_some, Option.toList_none, List.cons_append, List.nil_append, i10, i01, if_false, if_true, nI_add, nI_1, g_73_18, g_73_24, g_73_25, r.1]
      | some m =>
        rw [q1] at r
        dsimp only at r ⊢
        rw [if_neg (show ¬ (7 : Nat) ≤ 5 by decide), if_neg (show ¬ (7 : Nat) = 6 by decide)]
        cases q2 : numN (X 76) n (nxS (KX X) n (nxE (KX X) n (nxE (KX X) n e))) (nxE (KX X) n (nxE (KX X) n (nxE (KX X) n e))) (oth men m) (oth men m + men - 1) with
        | none =>
          rw [q2] at r
          refine ⟨?_, r.2⟩
          simp only [e_Model_readsClause, s_Model_readsClause_0, s_Model_readsClause_1 rcv_73, s_Model_readsClause_4, s_Model_readsClause_5, s_Model_readsClause_8, s_Model_readsClause_9, s_Model_readsClause_10 rcv_73, s_Model_readsClause_13 rcv_73, s_Model_readsClause_17, s_Model_readsClause_18, s_Model_readsClause_19, s_Model_readsClause_22 rcv_73, s_Model_readsClause_25, s_Model_readsClause_28, s_Model_readsClause_29 rcv_73, s_Model_readsClause_32, s_Model_readsClause_35, s_Model_readsClause_36, s_Model_readsClause_37, s_Model_readsClause_40 rcv_73, s_Model_readsClause_43, s_Model_readsClause_46, s_Model_readsClause_47 rcv_73, s_Model_readsClause_50, s_Model_readsClause_53, s_Model_readsClause_54, s_Model_readsClause_55, s_Model_readsClause_58 rcv_73, s_Model_readsClause_61, s_Model_readsClause_64, s_Model_readsClause_65 rcv_73, s_Model_readsClause_68, s_Model_readsClause_71, s_Model_readsClause_72, s_Model_readsClause_75, rz_Model_readsClause_76, ro_Model_readsClause_76, kz (Or.inr (Or.inr rfl)), i0, i6, i7, if_neg hne, Option.bind_some, Option.toList_some, Option.toList_none, List.cons_append, List.nil_append, i10, i01, if_false, if_true, nI_add, nI_1, g_73_18, g_73_24, g_73_25, r.1]
        | some b =>
          rw [q2] at r
          refine ⟨?_, r.2⟩
          simp only [e_Model_readsClause, s_Model_readsClause_0, s_Model_readsClause_1 rcv_73, s_Model_readsClause_4, s_Model_readsClause_5, s_Model_readsClause_8, s_Model_readsClause_9, s_Model_readsClause_10 rcv_73, s_Model_readsClause_13 rcv_73, s_Model_readsClause_17, s_Model_readsClause_18, s_Model_readsClause_19, s_Model_readsClause_22 rcv_73, s_Model_readsClause_25, s_Model_readsClause_28, s_Model_readsClause_29 rcv_73, s_Model_readsClause_32, s_Model_readsClause_35, s_Model_readsClause_36, s_Model_readsClause_37, s_Model_readsClause_40 rcv_73, s_Model_readsClause_43, s_Model_readsClause_46, s_Model_readsClause_47 rcv_73, s_Model_readsClause_50, s_Model_readsClause_53, s_Model_readsClause_54, s_Model_readsClause_55, s_Model_readsClause_58 rcv_73, s_Model_readsClause_61, s_Model_readsClause_64, s_Model_readsClause_65 rcv_73, s_Model_readsClause_68, s_Model_readsClause_71, s_Model_readsClause_72, s_Model_readsClause_75, rz_Model_readsClause_76, ro_Model_readsClause_76, kz (Or.inr (Or.inr rfl)), i0, i6, i7, if_neg hne, Option.bind_some, Option.toList_some, Option.toList_none, List.cons_append, List.nil_append, i10, i01, if_false, if_true, nI_add, nI_1, g_73_18, g_73_24, g_73_25, r.1]
    | 1, _ =>
      obtain ⟨X', r⟩ := kindW 0 (by decide) (by rw [if_neg hne]; rfl)
      refine ⟨X', ?_⟩
      dsimp only
      rw [if_neg (show ¬ (1 : Nat) = 0 by decide)]
      cases q1 : numN (X 76) n (nxS (KX X) n (nxE (KX X) n e)) (nxE (KX X) n (nxE (KX X) n e)) 0 (2 * men - 1) with
      | none => rw [q1] at r; exact r
      | some m => rw [q1] at r; dsimp only at r ⊢; rw [if_pos (show (1 : Nat) ≤ 5 by decide)]; exact r
    | 2, _ =>
      obtain ⟨X', r⟩ := kindW 1 (by decide) (by rw [if_pos (z 1 (by decide) (by decide)), if_neg hne]; rfl)
      refine ⟨X', ?_⟩
      dsimp only
      rw [if_neg (show ¬ (2 : Nat) = 0 by decide)]
      cases q1 : numN (X 76) n (nxS (KX X) n (nxE (KX X) n e)) (nxE (KX X) n (nxE (KX X) n e)) 0 (2 * men - 1) with
      | none => rw [q1] at r; exact r
      | some m => rw [q1] at r; dsimp only at r ⊢; rw [if_pos (show (2 : Nat) ≤ 5 by decide)]; exact r
    | 3, _ =>
      obtain ⟨X', r⟩ := kindW 2 (by decide) (by rw [if_pos (z 1 (by decide) (by decide)), if_pos (z 2 (by decide) (by decide)), if_neg hne]; rfl)
      refine ⟨X', ?_⟩
      dsimp only
      rw [if_neg (show ¬ (3 : Nat) = 0 by decide)]
      cases q1 : numN (X 76) n (nxS (KX X) n (nxE (KX X) n e)) (nxE (KX X) n (nxE (KX X) n e)) 0 (2 * men - 1) with
      | none => rw [q1] at r; exact r
      | some m => rw [q1] at r; dsimp only at r ⊢; rw [if_pos (show (3 : Nat) ≤ 5 by decide)]; exact r
    | 4, _ =>
      obtain ⟨X', r⟩ := kindW 3 (by decide) (by rw [if_pos (z 1 (by decide) (by decide)), if_pos (z 2 (by decide) (by decide)), if_pos (z 3 (by decide) (by decide)), if_neg hne]; rfl)
      refine ⟨X', ?_⟩
      dsimp only
      rw [if_neg (show ¬ (4 : Nat) = 0 by decide)]
      cases q1 : numN (X 76) n (nxS (KX X) n (nxE (KX X) n e)) (nxE (KX X) n (nxE (KX X) n e)) 0 (2 * men - 1) with
      | none => rw [q1] at r; exact r
      | some m => rw [q1] at r; dsimp only at r ⊢; rw [if_pos (show (4 : Nat) ≤ 5 by decide)]; exact r
    | 5, _ =>
      obtain ⟨X', r⟩ := kindW 4 (by decide) (by rw [if_pos (z 1 (by decide) (by decide)), if_pos (z 2 (by decide) (by decide)), if_pos (z 3 (by decide) (by decide)), if_pos (z 4 (by decide) (by decide)), if_neg hne]; rfl)
      refine ⟨X', ?_⟩
      dsimp only
      rw [if_neg (show ¬ (5 : Nat) = 0 by decide)]
      cases q1 : numN (X 76) n (nxS (KX X) n (nxE (KX X) n e)) (nxE (KX X) n (nxE (KX X) n e)) 0 (2 * men - 1) with
      | none => rw [q1] at r; exact r
      | some m => rw [q1] at r; dsimp only at r ⊢; rw [if_pos (show (5 : Nat) ≤ 5 by decide)]; exact r
end Mtx
