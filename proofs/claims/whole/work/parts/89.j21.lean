/-! ===== pairs: alike ===== -/
section Cal
variable {F : jx_F} {lv : Nat} {I C X Y : Nat → Nat → Int32} {J : Nat → Nat → Int64} {n : Nat}
theorem ps_ne {D fi fm p : Nat} {a : Int32 × Nat} (h4 : n ≤ 4) : ¬ (psS I n D fi fm p a).1 = -1 := by
  have hl := lb_pos (C := tpI I n fi fm p) (D := D) h4
  unfold psS
  by_cases q : lbF (tpI I n fi fm p) n D ≤ a.1
  · rw [if_pos q]; intro e; rw [e] at q; exact hl q
  · rw [if_neg q]; intro e
    exact hl (by rw [show lbF (tpI I n fi fm p) n D = -1 from e]; exact Int32.le_refl _)
theorem fold_ne {D fi fm : Nat} (h4 : n ≤ 4) : ∀ (Ls : List (List Nat)) (a : Int32 × Nat), (Ls ≠ [] ∨ ¬ a.1 = -1) → ¬ (Ls.foldl (fun a L => psS I n D fi fm (cdN (glN L) n) a) a).1 = -1 := by
  intro Ls
  induction Ls with
  | nil => intro a h; rcases h with h | h
           · exact absurd rfl h
           · exact h
  | cons L Ls ih => intro a _; exact ih _ (Or.inr (ps_ne h4))
theorem in_k {h : jx_H} {x y : Int32} : rn F lv 103 [.long x.toInt64, .long (-1), .long y.toInt64] h = some (some (.int (if x < -1 then 0 else if y < x then 0 else 1)), h) := in_int (lo := -1)
theorem k_cases (h4 : 1 ≤ n ∧ n ≤ 4) (k : Int32) : (k < -1 ∨ (¬ k < -1 ∧ nI n ≤ k)) ∨ (¬ k < -1 ∧ ¬ nI n ≤ k ∧ (k = -1 ∨ ∃ i, i < n ∧ k = nI i)) := by
  by_cases q : k < -1
  · exact Or.inl (Or.inl q)
  · by_cases q2 : nI n ≤ k
    · exact Or.inl (Or.inr ⟨q, q2⟩)
    · refine Or.inr ⟨q, q2, ?_⟩
      rcases pk_ix k (n := n) (by omega) with w | w | w
      · refine Or.inl ?_
        apply Int32.toInt_inj.1
        rw [Int32.lt_iff_toInt_lt] at w q
        have e1 : (-1 : Int32).toInt = -1 := rfl
        have e0 : (0 : Int32).toInt = 0 := rfl
        omega
      · exact absurd w q2
      · exact Or.inr w
theorem st_pairs (h : Inv I J) (s x k : Int32) : Alk F lv 80 154 [.int s, .int x, .int k] I J := by
  obtain ⟨n, ⟨hR, d, hd, ed⟩, _, _⟩ := h.2.2.2.2.2
  have h4 := hR.ms
  have hM := hR.wf.mn
  have e17 : (17 : Int32) = nI 17 := rfl
  rcases side_cases s with q | q
  · obtain ⟨q0, q1⟩ := side_no q
    refine ⟨-2, I, I, J, ?_, ?_, h⟩
    · simp only [e_Main_pairs, s_Main_pairs_0, s_Main_pairs_1, s_Main_pairs_4, s_Main_pairs_7, s_Main_pairs_9, isSide_eq, if_neg q0, if_neg q1, Option.bind_some, Option.toList_some, Option.toList_none, List.cons_append, List.nil_append, i10, i01, if_false, if_true, nI_add, nI_1]
    · have e : (if s < 0 then (0 : Int32) else if 1 < s then 0 else 1) = 0 := by
        by_cases w : s < 0
        · rw [if_pos w]
        · rcases q with q | q
          · exact absurd q w
          · rw [if_neg w, if_pos q]
      simp only [e_Model_pairs, s_Model_pairs_0, s_Model_pairs_1, s_Model_pairs_2, s_Model_pairs_3, s_Model_pairs_4, s_Model_pairs_7, s_Model_pairs_10, s_Model_pairs_12, i64_0, i64_1, in_int, e, Option.bind_some, Option.toList_some, Option.toList_none, List.cons_append, List.nil_append, i10, i01, if_false, if_true, nI_add, nI_1]
  have qs : (if s < 0 then (0 : Int32) else if 1 < s then 0 else 1) = 1 ∧ (if s = 0 then (1 : Int32) else if s = 1 then 1 else 0) = 1 := by
    rcases q with rfl | rfl
    · exact ⟨by decide, rfl⟩
    · exact ⟨by decide, rfl⟩
  obtain ⟨s1, s2⟩ := qs
  have mi : ∀ J', rn F (lv + 9) 103 [.long s.toInt64, .long 0, .long 1] J' = some (some (.int 1), J') := fun J' => by
    have := in_int (F := F) (lv := lv + 9) (h := J') (x := s) (lo := 0) (hi := 1)
    rw [s1] at this
    exact this
  rcases plan_cases x with w | ⟨w1, w2, D, hD, rfl⟩
  · refine ⟨-3, I, I, J, ?_, ?_, h⟩
    · simp only [e_Main_pairs, s_Main_pairs_0, s_Main_pairs_1, s_Main_pairs_4, s_Main_pairs_10, s_Main_pairs_11, s_Main_pairs_14, s_Main_pairs_33, s_Main_pairs_35, isSide_eq, s2, plan_no w, Option.bind_some, Option.toList_some, Option.toList_none, List.cons_append, List.nil_append, i10, i01, if_false, if_true, nI_add, nI_1]
    · simp only [e_Model_pairs, s_Model_pairs_0, s_Model_pairs_1, s_Model_pairs_2, s_Model_pairs_3, s_Model_pairs_4, mi, Option.bind_some, Option.toList_some, Option.toList_none, List.cons_append, List.nil_append, i10, i01, if_false, if_true, nI_add, nI_1, s_Model_pairs_7, s_Model_pairs_13, s_Model_pairs_14, s_Model_pairs_17, s_Model_pairs_19, s_Model_pairs_20, g_73_0, e17, g74 (show 17 < 239 by decide), hR.nn, s_Model_pairs_22, s_Model_pairs_23, s_Model_pairs_24, s_Model_pairs_25, s_Model_pairs_28, in_plan w, s_Model_pairs_31, s_Model_pairs_50, s_Model_pairs_52]
  have en1 : nI n - 1 = nI (n - 1) := pk_sub (show 1 ≤ n by omega)
  have ek : nI (n - 1) < k ↔ nI n ≤ k := by
    rw [Int32.lt_iff_toInt_lt, Int32.le_iff_toInt_le, nI_toInt (show n < 2 ^ 31 by omega), nI_toInt (show n - 1 < 2 ^ 31 by omega)]
    omega
  rcases k_cases h4 k with w | ⟨k1, k2, kc⟩
  · refine ⟨-3, I, I, J, ?_, ?_, h⟩
    · rcases w with w | ⟨w, w'⟩
      · simp only [e_Main_pairs, s_Main_pairs_0, s_Main_pairs_1, s_Main_pairs_4, s_Main_pairs_10, s_Main_pairs_11, s_Main_pairs_14, isSide_eq, s2, plan_yes w1 w2, Option.bind_some, Option.toList_some, Option.toList_none, List.cons_append, List.nil_append, i10, i01, if_false, if_true, nI_add, nI_1, s_Main_pairs_17, s_Main_pairs_18, s_Main_pairs_19, if_pos w, s_Main_pairs_33, s_Main_pairs_35]
      · simp only [e_Main_pairs, s_Main_pairs_0, s_Main_pairs_1, s_Main_pairs_4, s_Main_pairs_10, s_Main_pairs_11, s_Main_pairs_14, isSide_eq, s2, plan_yes w1 w2, Option.bind_some, Option.toList_some, Option.toList_none, List.cons_append, List.nil_append, i10, i01, if_false, if_true, nI_add, nI_1, s_Main_pairs_17, s_Main_pairs_18, s_Main_pairs_19, if_neg w, s_Main_pairs_22, s_Main_pairs_23, s_Main_pairs_24, s_Main_pairs_27, s_Main_pairs_30, g_0_1, g_5_3, hM.1, if_neg (Int32.not_lt.2 w'), s_Main_pairs_33, s_Main_pairs_35]
    · have e : (if k < -1 then (0 : Int32) else if nI (n - 1) < k then 0 else 1) = 0 := by
        rcases w with w | ⟨w, w'⟩
        · rw [if_pos w]
        · rw [if_neg w, if_pos (ek.2 w')]
      simp only [e_Model_pairs, s_Model_pairs_0, s_Model_pairs_1, s_Model_pairs_2, s_Model_pairs_3, s_Model_pairs_4, mi, Option.bind_some, Option.toList_some, Option.toList_none, List.cons_append, List.nil_append, i10, i01, if_false, if_true, nI_add, nI_1, s_Model_pairs_7, s_Model_pairs_13, s_Model_pairs_14, s_Model_pairs_17, s_Model_pairs_19, s_Model_pairs_20, g_73_0, e17, g74 (show 17 < 239 by decide), hR.nn, s_Model_pairs_22, s_Model_pairs_23, s_Model_pairs_24, s_Model_pairs_25, s_Model_pairs_28, in_plan1 w1 w2, s_Model_pairs_31, s_Model_pairs_34, s_Model_pairs_35, s_Model_pairs_36, s_Model_pairs_39, s_Model_pairs_41, s_Model_pairs_42, en1, s_Model_pairs_43, s_Model_pairs_44, in_k, e, s_Model_pairs_47, s_Model_pairs_50, s_Model_pairs_52]
  obtain ⟨fi, fm, hs⟩ : ∃ fi fm, sd n s fi fm := by
    rcases q with q | q
    · exact ⟨0, n, Or.inl ⟨q, rfl, rfl⟩⟩
    · exact ⟨n, 0, Or.inr ⟨q, rfl, rfl⟩⟩
  obtain ⟨Ls, g1, g2, g3⟩ := fin_use h4
  have hLs : Ls ≠ [] := by
    rintro rfl
    unfold seqO at g1
    split at g1
    · exact absurd g1 (by simp)
    · revert g1
      cases seqO n 23 _ with
      | none => simp
      | some l => simp
  obtain ⟨H, e1, t1⟩ := pairs_l (F := F) (lv := lv + 4) (J := J) (k := k) h4 hs hR.wf (show D < 2 ^ 31 by omega) (4 ^ n) 0 (-1, 0) I (by omega) ht_refl
  have eF : foldG (fun p a => if decide (vld n (nI p) n 0 0 = 1) = true then psS I n D fi fm p a else a) 0 (4 ^ n) (-1, 0) = Ls.foldl (fun a L => psS I n D fi fm (cdN (glN L) n) a) (-1, 0) := by
    rw [foldG_filter (v := fun p => decide (vld n (nI p) n 0 0 = 1)) (s := fun p a => psS I n D fi fm p a), ← g3, List.foldl_map]
  rw [eF] at e1
  have hne := fold_ne (I := I) (D := D) (fi := fi) (fm := fm) h4.2 Ls (-1, 0) (Or.inl hLs)
  have hc : ∀ x, x < 9 ∨ 12 < x → H x = I x := t1.1
  have h17 : H 74 17 = nI n := by rw [hc 74 (by decide)]; exact hR.nn
  have l0 := mp_init (F := F) (lv := lv + 10) (X := H) (J := J) (s := s) (D := nI D) (k := k) h4.2 hs 4 0 (by omega)
  rw [upTo_0] at l0
  have hfm : fm ≤ 4 := by rcases hs with ⟨_, _, rfl⟩ | ⟨_, _, rfl⟩ <;> omega
  obtain ⟨X', w7, w8, e2, x2, b2⟩ := mp_loop (F := F) (lv := lv + 5) (J := J) (Y := H) (k := k) hR (hc 74 (by decide)) hs ed (show d + D < 2 ^ 20 by omega) 24 [0, 1, 2, 3] Ls (-1, 0) (upTo H 93 (fun j => nI (fm + j)) 4) jx_junk jx_junk g1 g2 ⟨fun x h1 h2 => upTo_ne (by omega), fun y hy => by rw [upTo_ne (by decide)]⟩ (fun j hj => by
    rw [upTo_lt hj]
    match j, hj with
    | 0, _ => exact ⟨rfl, by decide⟩
    | 1, _ => exact ⟨rfl, by decide⟩
    | 2, _ => exact ⟨rfl, by decide⟩
    | 3, _ => exact ⟨rfl, by decide⟩) (Or.inl rfl)
  generalize Ls.foldl (fun a L => psS I n D fi fm (cdN (glN L) n) a) (-1, 0) = A at e1 e2 b2 hne
  have e5 : H 5 3 = nI n := by rw [hc 5 (by decide)]; exact hM.1
  have hM5 : Mn H 5 n := ⟨e5, h4⟩
  have run1 : ∀ y, ev F (lv + 10) jm_Main_pairs 128 [.ref 0, .int s, .int (nI D), .int k, .int A.1, .int (nI A.2), .int (nI (4 ^ n)), .int (nI (4 ^ n))] [] (HH H J) = some (some (.int y), HH H J) → rn F (lv + 10) 80 [.ref 0, .int s, .int (nI D), .int k] (HH I J) = some (some (.int y), HH H J) := by
    intro y hy
    simp only [e_Main_pairs, s_Main_pairs_0, s_Main_pairs_1, s_Main_pairs_4, s_Main_pairs_10, s_Main_pairs_11, s_Main_pairs_14, isSide_eq, s2, plan_yes w1 w2, Option.bind_some, Option.toList_some, Option.toList_none, List.cons_append, List.nil_append, i10, i01, if_false, if_true, nI_add, nI_1, s_Main_pairs_17, s_Main_pairs_18, s_Main_pairs_19, if_neg k1, s_Main_pairs_22, s_Main_pairs_23, s_Main_pairs_24, s_Main_pairs_27, s_Main_pairs_30, g_0_1, g_5_3, hM.1, if_pos (Int32.not_le.1 k2), s_Main_pairs_36, s_Main_pairs_37, s_Main_pairs_39, s_Main_pairs_40, s_Main_pairs_42, s_Main_pairs_43, s_Main_pairs_44, s_Main_pairs_45, s_Main_pairs_48, s_Main_pairs_51, s_Main_pairs_52, pl_sh n (show n < 5 by omega), s_Main_pairs_53, s_Main_pairs_55, s_Main_pairs_56]
    exact e1.trans hy
  have run2 : ∀ y, ev F (lv + 10) jm_Model_pairs 198 [.ref 73, .int s, .int (nI D), .int k, .int (nI n), .int A.1, .int 0, w7, w8] [] (HH X' J) = some (some (.int y), HH X' J) → rn F (lv + 10) 154 [.ref 73, .int s, .int (nI D), .int k] (HH H J) = some (some (.int y), HH X' J) := by
    intro y hy
    have e : (if k < -1 then (0 : Int32) else if nI (n - 1) < k then 0 else 1) = 1 := by
      rw [if_neg k1, if_neg (fun w => k2 (ek.1 w))]
    simp only [e_Model_pairs, s_Model_pairs_0, s_Model_pairs_1, s_Model_pairs_2, s_Model_pairs_3, s_Model_pairs_4, mi, Option.bind_some, Option.toList_some, Option.toList_none, List.cons_append, List.nil_append, i10, i01, if_false, if_true, nI_add, nI_1, s_Model_pairs_7, s_Model_pairs_13, s_Model_pairs_14, s_Model_pairs_17, s_Model_pairs_19, s_Model_pairs_20, g_73_0, e17, g74 (show 17 < 239 by decide), h17, s_Model_pairs_22, s_Model_pairs_23, s_Model_pairs_24, s_Model_pairs_25, s_Model_pairs_28, in_plan1 w1 w2, s_Model_pairs_31, s_Model_pairs_34, s_Model_pairs_35, s_Model_pairs_36, s_Model_pairs_39, s_Model_pairs_41, s_Model_pairs_42, en1, s_Model_pairs_43, s_Model_pairs_44, in_k, e, s_Model_pairs_47, s_Model_pairs_53, s_Model_pairs_54]
    refine Eq.trans l0 ?_
    simp only [s_Model_pairs_88, s_Model_pairs_89, s_Model_pairs_91, s_Model_pairs_92]
    exact e2.trans hy
  have inv := inv_kp h (kp_ft2 hc x2)
  rcases kc with rfl | ⟨i, hi, rfl⟩
  · refine ⟨A.1, H, X', J, run1 _ ?_, run2 _ ?_, inv⟩
    · simp only [s_Main_pairs_128, s_Main_pairs_129, s_Main_pairs_130, if_true, s_Main_pairs_133, s_Main_pairs_135, s_Main_pairs_159]
    · simp only [s_Model_pairs_198, s_Model_pairs_199, s_Model_pairs_200, if_true, s_Model_pairs_203, s_Model_pairs_205, s_Model_pairs_214]
  · rcases b2 with b2 | ⟨L, b1, b2, b3⟩
    · exact absurd b2 hne
    · obtain ⟨_, _, _, ok4⟩ := okL_use b1
      have ki : ¬ nI i = -1 := op_ne (by omega)
      have ef : rn F (lv + 9) 5 [.ref 5, .int (1 - s)] (HH H J) = some (some (.int (nI fm)), HH H J) := by
        rw [first_eq ar_5, e5]
        rcases hs with ⟨rfl, _, rfl⟩ | ⟨rfl, _, rfl⟩
        · rw [if_neg (by decide)]
        · rw [if_pos (by decide)]; rfl
      have ep : plc n (nI A.2) i = nI (glN L i) := by rw [b2]; exact ok4 i hi
      refine ⟨nI (fm + glN L i), H, X', J, run1 _ ?_, run2 _ ?_, inv⟩
      · simp only [s_Main_pairs_128, s_Main_pairs_129, s_Main_pairs_130, if_neg ki, s_Main_pairs_138, s_Main_pairs_139, s_Main_pairs_142, s_Main_pairs_143, s_Main_pairs_144, s_Main_pairs_145 (ar_rcv ar_5), g_0_1, ef, Option.bind_some, Option.toList_some, Option.toList_none, List.cons_append, List.nil_append, i10, i01, if_false, if_true, nI_add, nI_1, s_Main_pairs_148, s_Main_pairs_149, s_Main_pairs_152, s_Main_pairs_154, s_Main_pairs_155 (ar_rcv ar_5), plc_in ar_5 hM5, ep, s_Main_pairs_158, s_Main_pairs_159]
      · simp only [s_Model_pairs_198, s_Model_pairs_199, s_Model_pairs_200, if_neg ki, s_Model_pairs_208, s_Model_pairs_209, s_Model_pairs_212, s_Model_pairs_213, s_Model_pairs_214, g_73_28, g94 (show i < 4 by omega), b3 i hi]
end Cal
