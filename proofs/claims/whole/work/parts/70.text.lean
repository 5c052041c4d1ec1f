/-! ===== Text: readNumber ===== -/
/-- a digit's number -/
def dgN (x : Int32) : Nat := (x - 48).toNatClampNeg
theorem sort_2 {x : Int32} (h : sortI x = 2) : ∃ d : Nat, d < 10 ∧ x = nI (48 + d) := by
  have h1 : ¬ x < 48 ∧ ¬ (57 : Int32) < x := by
    unfold sortI at h
    split at h
    · split at h
      · exact absurd h (by decide)
      · split at h
        · exact absurd h (by decide)
        · constructor <;> assumption
    · split at h
      · split at h
        · exact absurd h (by decide)
        · split at h
          · exact absurd h (by decide)
          · constructor <;> assumption
      · exact absurd h (by decide)
  have h2 : ¬ x < 0 := fun q => h1.1 (by rw [Int32.lt_iff_toInt_lt] at q ⊢; exact Int.lt_trans q (by decide))
  obtain ⟨j, hj, rfl⟩ := nI_of h2
  have e1 : (48 : Int32) = nI 48 := rfl
  have e2 : (57 : Int32) = nI 57 := rfl
  have a : ¬ j < 48 := fun q => h1.1 (by rw [e1]; exact nI_lt q (by decide))
  have b : ¬ 57 < j := fun q => h1.2 (by rw [e2]; exact nI_lt q hj)
  exact ⟨j - 48, by omega, by congr 1; omega⟩
theorem dg_d {d : Nat} (h : d < 10) : nI (48 + d) - 48 = nI d ∧ dgN (nI (48 + d)) = d := by
  have e1 : (48 : Int32) = nI 48 := rfl
  have : nI (48 + d) - 48 = nI d := by rw [e1, pk_sub (by omega)]; congr 1; omega
  refine ⟨this, ?_⟩
  unfold dgN
  rw [this, nI_clamp (by omega)]
/-- the number of the token from s to e, of n letters, within bounds -/
def numN (T : Nat → Int32) (n s e lo hi : Nat) : Option Nat :=
  if n ≤ s then none else if 2 < e - s then none else if sortI (T s) = 2 then
    (if (if e = s + 2 then 10 * dgN (T s) + dgN (T (s + 1)) else dgN (T s)) < lo then none
     else if hi < (if e = s + 2 then 10 * dgN (T s) + dgN (T (s + 1)) else dgN (T s)) then none
     else some (if e = s + 2 then 10 * dgN (T s) + dgN (T (s + 1)) else dgN (T s))) else none
/-- a number or none -/
def opI : Option Nat → Int32
  | none => -1
  | some v => nI v
section Txt
variable {F : jx_F} {lv : Nat} {I : Nat → Nat → Int32} {J : Nat → Nat → Int64} {s e : Nat}
theorem run_le {t : Int32} : ∀ (c i : Nat), i ≤ runN I t c i ∧ runN I t c i ≤ i + c := by
  intro c
  induction c with
  | zero => intro i; exact ⟨Nat.le_refl _, Nat.le_refl _⟩
  | succ c ih =>
    intro i
    unfold runN
    split
    · have := ih (i + 1); omega
    · omega
theorem run_sort {t : Int32} : ∀ (c i j : Nat), i ≤ j → j < runN I t c i → sortI (I 14 j) = t := by
  intro c
  induction c with
  | zero => intro i j h1 h2; unfold runN at h2; omega
  | succ c ih =>
    intro i j h1 h2
    unfold runN at h2
    split at h2
    · rename_i q
      by_cases hj : j = i
      · rw [hj]; exact q
      · exact ih (i + 1) j (by omega) h2
    · omega
theorem end_in {n : Nat} (h : s < n) : s + 1 ≤ endN I n s ∧ endN I n s ≤ n := by
  unfold endN
  rw [if_pos h]
  split
  · omega
  · have := run_le (I := I) (t := sortI (I 14 s)) (n - (s + 1)) (s + 1); omega
theorem end_out {n : Nat} (h : n ≤ s) : endN I n s = s := by
  unfold endN; rw [if_neg (by omega)]
theorem end_sort {n j : Nat} (h : s < n) (h1 : s ≤ j) (h2 : j < endN I n s) : sortI (I 14 j) = sortI (I 14 s) := by
  by_cases q : j = s
  · rw [q]
  · unfold endN at h2
    rw [if_pos h] at h2
    split at h2
    · omega
    · exact run_sort _ _ _ (by omega) h2
/-- the next token behind e: where it begins, where it ends -/
def nxS (I : Nat → Nat → Int32) (n e : Nat) : Nat := skpN I (n - e) e
def nxE (I : Nat → Nat → Int32) (n e : Nat) : Nat := endN I n (nxS I n e)
theorem nx_s {n : Nat} (h : e ≤ n) : e ≤ nxS I n e ∧ nxS I n e ≤ n := by
  have a := skp_le (I := I) (n - e) e
  refine ⟨?_, by unfold nxS; omega⟩
  unfold nxS
  have : ∀ c i, i ≤ skpN I c i := by
    intro c
    induction c with
    | zero => intro i; exact Nat.le_refl _
    | succ c ih => intro i; unfold skpN; split
                   · have := ih (i + 1); omega
                   · omega
  exact this _ _
theorem nx_e {n : Nat} (h : e ≤ n) : nxS I n e ≤ nxE I n e ∧ nxE I n e ≤ n := by
  have a := nx_s (I := I) h
  unfold nxE
  by_cases q : nxS I n e < n
  · have := end_in (I := I) q; omega
  · rw [end_out (by omega)]; omega
theorem nxt_in {n : Nat} (en : I 13 2 = nI n) (hn : n ≤ 200) (he : e ≤ n) : rn F (lv + 1) 60 [.ref 13] (HH (TI I s e) J) = some (none, HH (TI I (nxS I n e) (nxE I n e)) J) := next_in en hn he
theorem num_in {n lo hi : Nat} (en : I 13 2 = nI n) (hn : n ≤ 200) (he : e ≤ n) (hl : lo < 100) (hh : hi < 100) : rn F (lv + 2) 59 [.ref 13, .int (nI lo), .int (nI hi)] (HH (TI I s e) J) = some (some (.int (opI (numN (I 14) n (nxS I n e) (nxE I n e) lo hi))), HH (TI I (nxS I n e) (nxE I n e)) J) := by
  have hs := nx_s (I := I) he
  have h2 := nx_e (I := I) he
  have h3 : nxS I n e < n → nxS I n e + 1 ≤ nxE I n e := fun q => (end_in q).1
  have h4 : ∀ j, nxS I n e < n → nxS I n e ≤ j → j < nxE I n e → sortI (I 14 j) = sortI (I 14 (nxS I n e)) := fun j => end_sort
  rw [e_Text_readNumber]
  simp only [s_Text_readNumber_0, s_Text_readNumber_1 rcv_13, nxt_in en hn he, Option.bind_some, Option.toList_none, List.nil_append]
  generalize nxS I n e = z at hs h2 h3 h4 ⊢
  generalize nxE I n e = y at h2 h3 h4 ⊢
  have e2 : (2 : Int32) = nI 2 := rfl
  simp only [s_Text_readNumber_0, s_Text_readNumber_1 rcv_13, s_Text_readNumber_4, s_Text_readNumber_5, s_Text_readNumber_8, s_Text_readNumber_9, s_Text_readNumber_12, s_Text_readNumber_15, s_Text_readNumber_16, s_Text_readNumber_19, s_Text_readNumber_20, s_Text_readNumber_23, s_Text_readNumber_24, s_Text_readNumber_25, s_Text_readNumber_28, s_Text_readNumber_29, s_Text_readNumber_32, s_Text_readNumber_33, s_Text_readNumber_36, s_Text_readNumber_37, s_Text_readNumber_40, s_Text_readNumber_41, s_Text_readNumber_44, s_Text_readNumber_45, s_Text_readNumber_47, s_Text_readNumber_48, s_Text_readNumber_49, s_Text_readNumber_52, s_Text_readNumber_54, s_Text_readNumber_56, s_Text_readNumber_57, s_Text_readNumber_60, s_Text_readNumber_63, s_Text_readNumber_65, s_Text_readNumber_66, s_Text_readNumber_67, s_Text_readNumber_68, s_Text_readNumber_71, s_Text_readNumber_73, s_Text_readNumber_74, s_Text_readNumber_75, s_Text_readNumber_77, s_Text_readNumber_78, s_Text_readNumber_79, s_Text_readNumber_82, s_Text_readNumber_85, s_Text_readNumber_86, s_Text_readNumber_87, s_Text_readNumber_90, s_Text_readNumber_91, s_Text_readNumber_92, s_Text_readNumber_95, s_Text_readNumber_96, s_Text_readNumber_99, s_Text_readNumber_100, g_13_0, g_13_2, g_13_4, g_13_5, ti_2, ti_4, ti_5, en]
  by_cases q : n ≤ z
  · simp only [if_pos (nI_le q (show z < 2 ^ 31 by omega)), numN, if_pos q, opI]
  · simp only [if_neg (nI_ge (show z < n by omega) (show n < 2 ^ 31 by omega)), pk_sub (show z ≤ y by omega), e2]
    by_cases q2 : 2 < y - z
    · simp only [if_pos (nI_lt q2 (show y - z < 2 ^ 31 by omega)), numN, if_neg q, if_pos q2, opI]
    · simp only [if_neg (nI_nlt (show y - z ≤ 2 by omega) (show 2 < 2 ^ 31 by decide)), gi_14, at_in (show z < 200 by omega) (show 200 < 2 ^ 31 by decide), nI_clamp (show z < 2 ^ 31 by omega), ti_ne (show 14 ≠ 13 by decide), sort_eq, Option.bind_some, Option.toList_some, List.cons_append, List.nil_append, s_Text_readNumber_0, s_Text_readNumber_1 rcv_13, s_Text_readNumber_4, s_Text_readNumber_5, s_Text_readNumber_8, s_Text_readNumber_9, s_Text_readNumber_12, s_Text_readNumber_15, s_Text_readNumber_16, s_Text_readNumber_19, s_Text_readNumber_20, s_Text_readNumber_23, s_Text_readNumber_24, s_Text_readNumber_25, s_Text_readNumber_28, s_Text_readNumber_29, s_Text_readNumber_32, s_Text_readNumber_33, s_Text_readNumber_36, s_Text_readNumber_37, s_Text_readNumber_40, s_Text_readNumber_41, s_Text_readNumber_44, s_Text_readNumber_45, s_Text_readNumber_47, s_Text_readNumber_48, s_Text_readNumber_49, s_Text_readNumber_52, s_Text_readNumber_54, s_Text_readNumber_56, s_Text_readNumber_57, s_Text_readNumber_60, s_Text_readNumber_63, s_Text_readNumber_65, s_Text_readNumber_66, s_Text_readNumber_67, s_Text_readNumber_68, s_Text_readNumber_71, s_Text_readNumber_73, s_Text_readNumber_74, s_Text_readNumber_75, s_Text_readNumber_77, s_Text_readNumber_78, s_Text_readNumber_79, s_Text_readNumber_82, s_Text_readNumber_85, s_Text_readNumber_86, s_Text_readNumber_87, s_Text_readNumber_90, s_Text_readNumber_91, s_Text_readNumber_92, s_Text_readNumber_95, s_Text_readNumber_96, s_Text_readNumber_99, s_Text_readNumber_100]
      by_cases q3 : sortI (I 14 z) = 2
      · obtain ⟨d, hd, ed⟩ := sort_2 q3
        have h5 := h3 (by omega)
        simp only [if_pos q3, numN, if_neg q, if_neg q2]
        by_cases q4 : y = z + 2
        · obtain ⟨d2, hd2, ed2⟩ := sort_2 ((h4 (z + 1) (by omega) (by omega) (by omega)).trans q3)
          subst q4
          have ev2 : 10 * nI d + nI (48 + d2) - 48 = nI (10 * d + d2) := by
            have e10 : (10 : Int32) = nI 10 := rfl
            have e48 : (48 : Int32) = nI 48 := rfl
            rw [e10, e48, pk_mul, nI_add, pk_sub (by omega)]; congr 1; omega
          have ev1 : (10 : Int32) * 0 + nI (48 + d) - 48 = nI d := by rw [show (10 : Int32) * 0 = 0 from rfl, Int32.zero_add]; exact (dg_d hd).1
          simp only [s_Text_readNumber_46, s_Text_readNumber_47, s_Text_readNumber_48, s_Text_readNumber_49, s_Text_readNumber_52, g_13_4, ti_4]
          rw [s_Text_readNumber_54]
          simp only [s_Text_readNumber_0, s_Text_readNumber_1 rcv_13, s_Text_readNumber_4, s_Text_readNumber_5, s_Text_readNumber_8, s_Text_readNumber_9, s_Text_readNumber_12, s_Text_readNumber_15, s_Text_readNumber_16, s_Text_readNumber_19, s_Text_readNumber_20, s_Text_readNumber_23, s_Text_readNumber_24, s_Text_readNumber_25, s_Text_readNumber_28, s_Text_readNumber_29, s_Text_readNumber_32, s_Text_readNumber_33, s_Text_readNumber_36, s_Text_readNumber_37, s_Text_readNumber_40, s_Text_readNumber_41, s_Text_readNumber_44, s_Text_readNumber_45, s_Text_readNumber_47, s_Text_readNumber_48, s_Text_readNumber_49, s_Text_readNumber_52, s_Text_readNumber_56, s_Text_readNumber_57, s_Text_readNumber_60, s_Text_readNumber_63, s_Text_readNumber_65, s_Text_readNumber_66, s_Text_readNumber_67, s_Text_readNumber_68, s_Text_readNumber_71, s_Text_readNumber_73, s_Text_readNumber_74, s_Text_readNumber_75, s_Text_readNumber_77, s_Text_readNumber_78, s_Text_readNumber_79, s_Text_readNumber_82, s_Text_readNumber_85, s_Text_readNumber_86, s_Text_readNumber_87, s_Text_readNumber_90, s_Text_readNumber_91, s_Text_readNumber_92, s_Text_readNumber_95, s_Text_readNumber_96, s_Text_readNumber_99, s_Text_readNumber_100, g_13_0, g_13_5, ti_5, if_neg (nI_ge (show z < z + 2 by omega) (show z + 2 < 2 ^ 31 by omega)), gi_14, at_in (show z < 200 by omega) (show 200 < 2 ^ 31 by decide), nI_clamp (show z < 2 ^ 31 by omega), ti_ne (show 14 ≠ 13 by decide), nI_1, ed, ev1]
          rw [s_Text_readNumber_54]
          simp only [s_Text_readNumber_0, s_Text_readNumber_1 rcv_13, s_Text_readNumber_4, s_Text_readNumber_5, s_Text_readNumber_8, s_Text_readNumber_9, s_Text_readNumber_12, s_Text_readNumber_15, s_Text_readNumber_16, s_Text_readNumber_19, s_Text_readNumber_20, s_Text_readNumber_23, s_Text_readNumber_24, s_Text_readNumber_25, s_Text_readNumber_28, s_Text_readNumber_29, s_Text_readNumber_32, s_Text_readNumber_33, s_Text_readNumber_36, s_Text_readNumber_37, s_Text_readNumber_40, s_Text_readNumber_41, s_Text_readNumber_44, s_Text_readNumber_45, s_Text_readNumber_47, s_Text_readNumber_48, s_Text_readNumber_49, s_Text_readNumber_52, s_Text_readNumber_56, s_Text_readNumber_57, s_Text_readNumber_60, s_Text_readNumber_63, s_Text_readNumber_65, s_Text_readNumber_66, s_Text_readNumber_67, s_Text_readNumber_68, s_Text_readNumber_71, s_Text_readNumber_73, s_Text_readNumber_74, s_Text_readNumber_75, s_Text_readNumber_77, s_Text_readNumber_78, s_Text_readNumber_79, s_Text_readNumber_82, s_Text_readNumber_85, s_Text_readNumber_86, s_Text_readNumber_87, s_Text_readNumber_90, s_Text_readNumber_91, s_Text_readNumber_92, s_Text_readNumber_95, s_Text_readNumber_96, s_Text_readNumber_99, s_Text_readNumber_100, g_13_0, g_13_5, ti_5, if_neg (nI_ge (show z + 1 < z + 2 by omega) (show z + 2 < 2 ^ 31 by omega)), gi_14, at_in (show z + 1 < 200 by omega) (show 200 < 2 ^ 31 by decide), nI_clamp (show z + 1 < 2 ^ 31 by omega), ti_ne (show 14 ≠ 13 by decide), nI_1, ed2, ev2]
          rw [s_Text_readNumber_54]
          simp only [s_Text_readNumber_0, s_Text_readNumber_1 rcv_13, s_Text_readNumber_4, s_Text_readNumber_5, s_Text_readNumber_8, s_Text_readNumber_9, s_Text_readNumber_12, s_Text_readNumber_15, s_Text_readNumber_16, s_Text_readNumber_19, s_Text_readNumber_20, s_Text_readNumber_23, s_Text_readNumber_24, s_Text_readNumber_25, s_Text_readNumber_28, s_Text_readNumber_29, s_Text_readNumber_32, s_Text_readNumber_33, s_Text_readNumber_36, s_Text_readNumber_37, s_Text_readNumber_40, s_Text_readNumber_41, s_Text_readNumber_44, s_Text_readNumber_45, s_Text_readNumber_47, s_Text_readNumber_48, s_Text_readNumber_49, s_Text_readNumber_52, s_Text_readNumber_56, s_Text_readNumber_57, s_Text_readNumber_60, s_Text_readNumber_63, s_Text_readNumber_65, s_Text_readNumber_66, s_Text_readNumber_67, s_Text_readNumber_68, s_Text_readNumber_71, s_Text_readNumber_73, s_Text_readNumber_74, s_Text_readNumber_75, s_Text_readNumber_77, s_Text_readNumber_78, s_Text_readNumber_79, s_Text_readNumber_82, s_Text_readNumber_85, s_Text_readNumber_86, s_Text_readNumber_87, s_Text_readNumber_90, s_Text_readNumber_91, s_Text_readNumber_92, s_Text_readNumber_95, s_Text_readNumber_96, s_Text_readNumber_99, s_Text_readNumber_100, g_13_5, ti_5, if_pos (nI_le (show z + 2 ≤ z + 1 + 1 by omega) (show z + 1 + 1 < 2 ^ 31 by omega)), if_true, (dg_d hd).2, (dg_d hd2).2]
          simp only [nI_ltI (show 10 * d + d2 < 2 ^ 31 by omega) (show lo < 2 ^ 31 by omega), nI_ltI (show hi < 2 ^ 31 by omega) (show 10 * d + d2 < 2 ^ 31 by omega)]
          split
          · simp only [opI]
          · split
            · simp only [opI]
            · simp only [opI]
        · obtain rfl : y = z + 1 := by omega
          have ev1 : (10 : Int32) * 0 + nI (48 + d) - 48 = nI d := by rw [show (10 : Int32) * 0 = 0 from rfl, Int32.zero_add]; exact (dg_d hd).1
          simp only [s_Text_readNumber_46, s_Text_readNumber_47, s_Text_readNumber_48, s_Text_readNumber_49, s_Text_readNumber_52, g_13_4, ti_4]
          rw [s_Text_readNumber_54]
          simp only [s_Text_readNumber_0, s_Text_readNumber_1 rcv_13, s_Text_readNumber_4, s_Text_readNumber_5, s_Text_readNumber_8, s_Text_readNumber_9, s_Text_readNumber_12, s_Text_readNumber_15, s_Text_readNumber_16, s_Text_readNumber_19, s_Text_readNumber_20, s_Text_readNumber_23, s_Text_readNumber_24, s_Text_readNumber_25, s_Text_readNumber_28, s_Text_readNumber_29, s_Text_readNumber_32, s_Text_readNumber_33, s_Text_readNumber_36, s_Text_readNumber_37, s_Text_readNumber_40, s_Text_readNumber_41, s_Text_readNumber_44, s_Text_readNumber_45, s_Text_readNumber_47, s_Text_readNumber_48, s_Text_readNumber_49, s_Text_readNumber_52, s_Text_readNumber_56, s_Text_readNumber_57, s_Text_readNumber_60, s_Text_readNumber_63, s_Text_readNumber_65, s_Text_readNumber_66, s_Text_readNumber_67, s_Text_readNumber_68, s_Text_readNumber_71, s_Text_readNumber_73, s_Text_readNumber_74, s_Text_readNumber_75, s_Text_readNumber_77, s_Text_readNumber_78, s_Text_readNumber_79, s_Text_readNumber_82, s_Text_readNumber_85, s_Text_readNumber_86, s_Text_readNumber_87, s_Text_readNumber_90, s_Text_readNumber_91, s_Text_readNumber_92, s_Text_readNumber_95, s_Text_readNumber_96, s_Text_readNumber_99, s_Text_readNumber_100, g_13_0, g_13_5, ti_5, if_neg (nI_ge (show z < z + 1 by omega) (show z + 1 < 2 ^ 31 by omega)), gi_14, at_in (show z < 200 by omega) (show 200 < 2 ^ 31 by decide), nI_clamp (show z < 2 ^ 31 by omega), ti_ne (show 14 ≠ 13 by decide), nI_1, ed, ev1]
          rw [s_Text_readNumber_54]
          simp only [s_Text_readNumber_0, s_Text_readNumber_1 rcv_13, s_Text_readNumber_4, s_Text_readNumber_5, s_Text_readNumber_8, s_Text_readNumber_9, s_Text_readNumber_12, s_Text_readNumber_15, s_Text_readNumber_16, s_Text_readNumber_19, s_Text_readNumber_20, s_Text_readNumber_23, s_Text_readNumber_24, s_Text_readNumber_25, s_Text_readNumber_28, s_Text_readNumber_29, s_Text_readNumber_32, s_Text_readNumber_33, s_Text_readNumber_36, s_Text_readNumber_37, s_Text_readNumber_40, s_Text_readNumber_41, s_Text_readNumber_44, s_Text_readNumber_45, s_Text_readNumber_47, s_Text_readNumber_48, s_Text_readNumber_49, s_Text_readNumber_52, s_Text_readNumber_56, s_Text_readNumber_57, s_Text_readNumber_60, s_Text_readNumber_63, s_Text_readNumber_65, s_Text_readNumber_66, s_Text_readNumber_67, s_Text_readNumber_68, s_Text_readNumber_71, s_Text_readNumber_73, s_Text_readNumber_74, s_Text_readNumber_75, s_Text_readNumber_77, s_Text_readNumber_78, s_Text_readNumber_79, s_Text_readNumber_82, s_Text_readNumber_85, s_Text_readNumber_86, s_Text_readNumber_87, s_Text_readNumber_90, s_Text_readNumber_91, s_Text_readNumber_92, s_Text_readNumber_95, s_Text_readNumber_96, s_Text_readNumber_99, s_Text_readNumber_100, g_13_5, ti_5, if_pos (nI_le (show z + 1 ≤ z + 1 by omega) (show z + 1 < 2 ^ 31 by omega)), if_neg q4, (dg_d hd).2]
          simp only [nI_ltI (show d < 2 ^ 31 by omega) (show lo < 2 ^ 31 by omega), nI_ltI (show hi < 2 ^ 31 by omega) (show d < 2 ^ 31 by omega)]
          split
          · simp only [opI]
          · split
            · simp only [opI]
            · simp only [opI]
      · simp only [if_neg q3, numN, if_neg q, if_neg q2, opI]
end Txt
