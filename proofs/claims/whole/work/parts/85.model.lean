/-! ===== the Model: hamper, the shots of a day ===== -/
section Mdl
variable {F : jx_F} {lv : Nat} {I C : Nat → Nat → Int32} {J : Nat → Nat → Int64} {a b n : Nat}
theorem nI_le0 {k : Nat} (h : k < 2 ^ 31) : (nI k ≤ 0) = (nI k = 0) := by
  by_cases q : k = 0
  · subst q; simp [show nI 0 = (0 : Int32) from rfl]
  · simp only [nI_nle (show 0 < k by omega) h, nI_ne0 (show 0 < k by omega) h]
/-- the Model's row with the buttons g of the first k -/
theorem rw_upF {g : Nat → Int32} {k : Nat} (h : Rw C a I b n) (hb : b = 0 ∨ 26 ≤ b) (hk : k ≤ 2 * n) : upF I 74 b g k 74 17 = nI n ∧ (∀ j, j < 2 * n → upF I 74 b g k 74 (18 + j) = C (a + 1) j) ∧ (∀ j, j < 2 * n → upF I 74 b g k 74 (b + 8 + j) = C (a + 3) j) ∧ upF I 74 b g k 74 (b + 16) = C a 4 := by
  have h2 := h.ms
  refine ⟨?_, ?_, ?_, ?_⟩
  · rw [upF_out (by omega)]; exact h.nn
  · intro j hj; rw [upF_out (by omega)]; exact h.k hj
  · intro j hj; rw [upF_out (by omega)]; exact h.md hj
  · rw [upF_out (by omega)]; exact h.dy
theorem mham_l2 (h : Rw C a I b n) (hb : b = 0 ∨ 26 ≤ b) : ∀ (c m : Nat), m + c = 2 * n → ev F (lv + 1) jm_Model_hamper 58 [.ref 73, .int (nI b), .int (nI (bN (getB C a) (2 * n))), .int (nI m)] [] (HH (upF I 74 b (hamB C a) m) J) = some (none, HH (upF I 74 b (hamB C a) (2 * n)) J) := by
  have h1 := h.ba
  have h2 := h.ms
  have e6 : (6 : Int32) = nI 6 := rfl
  have e0 : nI b + 0 = nI b := nI_add b 0
  have hB : bN (getB C a) (2 * n) < 256 := Nat.lt_of_lt_of_le (bN_lt (2 * n)) (Nat.pow_le_pow_right (by decide) (show 2 * n ≤ 8 by omega))
  intro c
  induction c with
  | zero =>
    intro m hm
    obtain rfl : m = 2 * n := by omega
    rw [s_Model_hamper_58]
    simp only [s_Model_hamper_0, s_Model_hamper_1, s_Model_hamper_2, s_Model_hamper_3, s_Model_hamper_4, s_Model_hamper_5, s_Model_hamper_6 rcv_73, s_Model_hamper_9, s_Model_hamper_12, s_Model_hamper_13, s_Model_hamper_14, s_Model_hamper_15, s_Model_hamper_16 rcv_73, s_Model_hamper_19, s_Model_hamper_22, s_Model_hamper_23, s_Model_hamper_24, s_Model_hamper_25, s_Model_hamper_28, s_Model_hamper_29, s_Model_hamper_31, s_Model_hamper_32, s_Model_hamper_33, s_Model_hamper_34, s_Model_hamper_35 rcv_73, s_Model_hamper_38, s_Model_hamper_41, s_Model_hamper_42, s_Model_hamper_43, s_Model_hamper_44, s_Model_hamper_47, s_Model_hamper_48, s_Model_hamper_49, s_Model_hamper_50, s_Model_hamper_53, s_Model_hamper_56, s_Model_hamper_57, s_Model_hamper_59, s_Model_hamper_60 rcv_73, s_Model_hamper_63, s_Model_hamper_66, s_Model_hamper_67, s_Model_hamper_70, s_Model_hamper_71, s_Model_hamper_72, s_Model_hamper_73, s_Model_hamper_74, s_Model_hamper_75, s_Model_hamper_76, s_Model_hamper_77, s_Model_hamper_78, s_Model_hamper_79, s_Model_hamper_82, s_Model_hamper_85, s_Model_hamper_86, s_Model_hamper_89, s_Model_hamper_90, s_Model_hamper_91, s_Model_hamper_92, s_Model_hamper_93, s_Model_hamper_94, s_Model_hamper_95, s_Model_hamper_97, s_Model_hamper_100, s_Model_hamper_101, s_Model_hamper_104, s_Model_hamper_105, s_Model_hamper_106, s_Model_hamper_107, s_Model_hamper_110, s_Model_hamper_113, men_in (rw_upF (g := hamB C a) h hb (Nat.le_refl (2 * n))).1, Option.bind_some, Option.toList_some, List.cons_append, List.nil_append, if_pos (nI_le (Nat.le_refl (2 * n)) (show 2 * n < 2 ^ 31 by omega))]
  | succ c ih =>
    intro m hm
    have hm' : m < 2 * n := by omega
    obtain ⟨o, ho, eo⟩ := h.wf.md m hm'
    obtain ⟨bm, hbm, ebm⟩ := h.wf.bt m hm'
    obtain ⟨bo, hbo, ebo⟩ := h.wf.bt o ho
    have er : upF I 74 b (hamB C a) m 74 (b + m) = nI bm := by rw [upF_out (by omega), h.bt hm', ebm]
    have eg : getB C a m = decide (¬ nI bm = (0 : Int32) ∧ ¬ nI bo = (0 : Int32)) := by unfold getB; rw [eo, nI_clamp (by omega), ebm, ebo]; simp only [nI_le0 (show bm < 2 ^ 31 by omega), nI_le0 (show bo < 2 ^ 31 by omega)]
    have eh : hamB C a m = if nI bm = (0 : Int32) then nI bm else if nI bo = (0 : Int32) then nI bm else if nI bm + 1 < 6 then nI bm + 1 else 6 := by
      unfold hamB; rw [eo, nI_clamp (by omega), ebm, ebo]
    have i1 := ih (m + 1) (by omega)
    have er0 : nI bm + 0 = nI bm := nI_add bm 0
    rw [s_Model_hamper_58]
    simp only [s_Model_hamper_0, s_Model_hamper_1, s_Model_hamper_2, s_Model_hamper_3, s_Model_hamper_4, s_Model_hamper_5, s_Model_hamper_6 rcv_73, s_Model_hamper_9, s_Model_hamper_12, s_Model_hamper_13, s_Model_hamper_14, s_Model_hamper_15, s_Model_hamper_16 rcv_73, s_Model_hamper_19, s_Model_hamper_22, s_Model_hamper_23, s_Model_hamper_24, s_Model_hamper_25, s_Model_hamper_28, s_Model_hamper_29, s_Model_hamper_31, s_Model_hamper_32, s_Model_hamper_33, s_Model_hamper_34, s_Model_hamper_35 rcv_73, s_Model_hamper_38, s_Model_hamper_41, s_Model_hamper_42, s_Model_hamper_43, s_Model_hamper_44, s_Model_hamper_47, s_Model_hamper_48, s_Model_hamper_49, s_Model_hamper_50, s_Model_hamper_53, s_Model_hamper_56, s_Model_hamper_57, s_Model_hamper_59, s_Model_hamper_60 rcv_73, s_Model_hamper_63, s_Model_hamper_66, s_Model_hamper_67, s_Model_hamper_70, s_Model_hamper_71, s_Model_hamper_72, s_Model_hamper_73, s_Model_hamper_74, s_Model_hamper_75, s_Model_hamper_76, s_Model_hamper_77, s_Model_hamper_78, s_Model_hamper_79, s_Model_hamper_82, s_Model_hamper_85, s_Model_hamper_86, s_Model_hamper_89, s_Model_hamper_90, s_Model_hamper_91, s_Model_hamper_92, s_Model_hamper_93, s_Model_hamper_94, s_Model_hamper_95, s_Model_hamper_97, s_Model_hamper_100, s_Model_hamper_101, s_Model_hamper_104, s_Model_hamper_105, s_Model_hamper_106, s_Model_hamper_107, s_Model_hamper_110, s_Model_hamper_113, men_in (rw_upF (g := hamB C a) h hb (show m ≤ 2 * n by omega)).1, Option.bind_some, Option.toList_some, List.cons_append, List.nil_append, if_neg (nI_ge hm' (show 2 * n < 2 ^ 31 by omega)), g_73_0, e0, nI_add, g74 (show b + m < 239 by omega), er, mhas_in hB (show m < 8 by omega), bN_get (2 * n) hm', eg]
    by_cases q1 : nI bm = (0 : Int32)
    · rw [if_pos q1] at eh
      simp only [q1, not_true, false_and, decide_false, Bool.false_eq_true, if_false, if_neg (show ¬ (0 : Nat) = 1 by decide), if_true, s_Model_hamper_0, s_Model_hamper_1, s_Model_hamper_2, s_Model_hamper_3, s_Model_hamper_4, s_Model_hamper_5, s_Model_hamper_6 rcv_73, s_Model_hamper_9, s_Model_hamper_12, s_Model_hamper_13, s_Model_hamper_14, s_Model_hamper_15, s_Model_hamper_16 rcv_73, s_Model_hamper_19, s_Model_hamper_22, s_Model_hamper_23, s_Model_hamper_24, s_Model_hamper_25, s_Model_hamper_28, s_Model_hamper_29, s_Model_hamper_31, s_Model_hamper_32, s_Model_hamper_33, s_Model_hamper_34, s_Model_hamper_35 rcv_73, s_Model_hamper_38, s_Model_hamper_41, s_Model_hamper_42, s_Model_hamper_43, s_Model_hamper_44, s_Model_hamper_47, s_Model_hamper_48, s_Model_hamper_49, s_Model_hamper_50, s_Model_hamper_53, s_Model_hamper_56, s_Model_hamper_57, s_Model_hamper_59, s_Model_hamper_60 rcv_73, s_Model_hamper_63, s_Model_hamper_66, s_Model_hamper_67, s_Model_hamper_70, s_Model_hamper_71, s_Model_hamper_72, s_Model_hamper_73, s_Model_hamper_74, s_Model_hamper_75, s_Model_hamper_76, s_Model_hamper_77, s_Model_hamper_78, s_Model_hamper_79, s_Model_hamper_82, s_Model_hamper_85, s_Model_hamper_86, s_Model_hamper_89, s_Model_hamper_90, s_Model_hamper_91, s_Model_hamper_92, s_Model_hamper_93, s_Model_hamper_94, s_Model_hamper_95, s_Model_hamper_97, s_Model_hamper_100, s_Model_hamper_101, s_Model_hamper_104, s_Model_hamper_105, s_Model_hamper_106, s_Model_hamper_107, s_Model_hamper_110, s_Model_hamper_113, p74 (show b + m < 239 by omega), nI_1]
      rw [upF_s (by rw [eh, q1]; rfl)]
      exact i1
    · rw [if_neg q1] at eh
      by_cases q2 : nI bo = (0 : Int32)
      · rw [if_pos q2] at eh
        simp only [q1, q2, not_true, and_false, decide_false, Bool.false_eq_true, if_false, if_neg (show ¬ (0 : Nat) = 1 by decide), if_true, s_Model_hamper_0, s_Model_hamper_1, s_Model_hamper_2, s_Model_hamper_3, s_Model_hamper_4, s_Model_hamper_5, s_Model_hamper_6 rcv_73, s_Model_hamper_9, s_Model_hamper_12, s_Model_hamper_13, s_Model_hamper_14, s_Model_hamper_15, s_Model_hamper_16 rcv_73, s_Model_hamper_19, s_Model_hamper_22, s_Model_hamper_23, s_Model_hamper_24, s_Model_hamper_25, s_Model_hamper_28, s_Model_hamper_29, s_Model_hamper_31, s_Model_hamper_32, s_Model_hamper_33, s_Model_hamper_34, s_Model_hamper_35 rcv_73, s_Model_hamper_38, s_Model_hamper_41, s_Model_hamper_42, s_Model_hamper_43, s_Model_hamper_44, s_Model_hamper_47, s_Model_hamper_48, s_Model_hamper_49, s_Model_hamper_50, s_Model_hamper_53, s_Model_hamper_56, s_Model_hamper_57, s_Model_hamper_59, s_Model_hamper_60 rcv_73, s_Model_hamper_63, s_Model_hamper_66, s_Model_hamper_67, s_Model_hamper_70, s_Model_hamper_71, s_Model_hamper_72, s_Model_hamper_73, s_Model_hamper_74, s_Model_hamper_75, s_Model_hamper_76, s_Model_hamper_77, s_Model_hamper_78, s_Model_hamper_79, s_Model_hamper_82, s_Model_hamper_85, s_Model_hamper_86, s_Model_hamper_89, s_Model_hamper_90, s_Model_hamper_91, s_Model_hamper_92, s_Model_hamper_93, s_Model_hamper_94, s_Model_hamper_95, s_Model_hamper_97, s_Model_hamper_100, s_Model_hamper_101, s_Model_hamper_104, s_Model_hamper_105, s_Model_hamper_106, s_Model_hamper_107, s_Model_hamper_110, s_Model_hamper_113, p74 (show b + m < 239 by omega), nI_1, er0]
        rw [upF_s eh.symm]
        exact i1
      · rw [if_neg q2] at eh
        have hlt : (nI bm + 1 < 6) ↔ bm + 1 < 6 := by rw [nI_1, e6]; exact nI_ltI (by omega) (by omega)
        simp only [q1, q2, not_false_eq_true, and_self, decide_true, if_true, if_neg (show ¬ (1 : Int32) = 0 by decide), s_Model_hamper_0, s_Model_hamper_1, s_Model_hamper_2, s_Model_hamper_3, s_Model_hamper_4, s_Model_hamper_5, s_Model_hamper_6 rcv_73, s_Model_hamper_9, s_Model_hamper_12, s_Model_hamper_13, s_Model_hamper_14, s_Model_hamper_15, s_Model_hamper_16 rcv_73, s_Model_hamper_19, s_Model_hamper_22, s_Model_hamper_23, s_Model_hamper_24, s_Model_hamper_25, s_Model_hamper_28, s_Model_hamper_29, s_Model_hamper_31, s_Model_hamper_32, s_Model_hamper_33, s_Model_hamper_34, s_Model_hamper_35 rcv_73, s_Model_hamper_38, s_Model_hamper_41, s_Model_hamper_42, s_Model_hamper_43, s_Model_hamper_44, s_Model_hamper_47, s_Model_hamper_48, s_Model_hamper_49, s_Model_hamper_50, s_Model_hamper_53, s_Model_hamper_56, s_Model_hamper_57, s_Model_hamper_59, s_Model_hamper_60 rcv_73, s_Model_hamper_63, s_Model_hamper_66, s_Model_hamper_67, s_Model_hamper_70, s_Model_hamper_71, s_Model_hamper_72, s_Model_hamper_73, s_Model_hamper_74, s_Model_hamper_75, s_Model_hamper_76, s_Model_hamper_77, s_Model_hamper_78, s_Model_hamper_79, s_Model_hamper_82, s_Model_hamper_85, s_Model_hamper_86, s_Model_hamper_89, s_Model_hamper_90, s_Model_hamper_91, s_Model_hamper_92, s_Model_hamper_93, s_Model_hamper_94, s_Model_hamper_95, s_Model_hamper_97, s_Model_hamper_100, s_Model_hamper_101, s_Model_hamper_104, s_Model_hamper_105, s_Model_hamper_106, s_Model_hamper_107, s_Model_hamper_110, s_Model_hamper_113, g_73_0, e0, nI_add, g74 (show b + m < 239 by omega), er, e6]
        by_cases q3 : 6 ≤ bm
        · simp only [if_pos (nI_le q3 (show bm < 2 ^ 31 by omega)), p74 (show b + m < 239 by omega), nI_1, er0, s_Model_hamper_0, s_Model_hamper_1, s_Model_hamper_2, s_Model_hamper_3, s_Model_hamper_4, s_Model_hamper_5, s_Model_hamper_6 rcv_73, s_Model_hamper_9, s_Model_hamper_12, s_Model_hamper_13, s_Model_hamper_14, s_Model_hamper_15, s_Model_hamper_16 rcv_73, s_Model_hamper_19, s_Model_hamper_22, s_Model_hamper_23, s_Model_hamper_24, s_Model_hamper_25, s_Model_hamper_28, s_Model_hamper_29, s_Model_hamper_31, s_Model_hamper_32, s_Model_hamper_33, s_Model_hamper_34, s_Model_hamper_35 rcv_73, s_Model_hamper_38, s_Model_hamper_41, s_Model_hamper_42, s_Model_hamper_43, s_Model_hamper_44, s_Model_hamper_47, s_Model_hamper_48, s_Model_hamper_49, s_Model_hamper_50, s_Model_hamper_53, s_Model_hamper_56, s_Model_hamper_57, s_Model_hamper_59, s_Model_hamper_60 rcv_73, s_Model_hamper_63, s_Model_hamper_66, s_Model_hamper_67, s_Model_hamper_70, s_Model_hamper_71, s_Model_hamper_72, s_Model_hamper_73, s_Model_hamper_74, s_Model_hamper_75, s_Model_hamper_76, s_Model_hamper_77, s_Model_hamper_78, s_Model_hamper_79, s_Model_hamper_82, s_Model_hamper_85, s_Model_hamper_86, s_Model_hamper_89, s_Model_hamper_90, s_Model_hamper_91, s_Model_hamper_92, s_Model_hamper_93, s_Model_hamper_94, s_Model_hamper_95, s_Model_hamper_97, s_Model_hamper_100, s_Model_hamper_101, s_Model_hamper_104, s_Model_hamper_105, s_Model_hamper_106, s_Model_hamper_107, s_Model_hamper_110, s_Model_hamper_113]
          rw [upF_s (by rw [eh, if_neg (by rw [hlt]; omega), e6]; congr 1; omega)]
          exact i1
        · simp only [if_neg (nI_ge (show bm < 6 by omega) (show 6 < 2 ^ 31 by decide)), p74 (show b + m < 239 by omega), nI_1, s_Model_hamper_0, s_Model_hamper_1, s_Model_hamper_2, s_Model_hamper_3, s_Model_hamper_4, s_Model_hamper_5, s_Model_hamper_6 rcv_73, s_Model_hamper_9, s_Model_hamper_12, s_Model_hamper_13, s_Model_hamper_14, s_Model_hamper_15, s_Model_hamper_16 rcv_73, s_Model_hamper_19, s_Model_hamper_22, s_Model_hamper_23, s_Model_hamper_24, s_Model_hamper_25, s_Model_hamper_28, s_Model_hamper_29, s_Model_hamper_31, s_Model_hamper_32, s_Model_hamper_33, s_Model_hamper_34, s_Model_hamper_35 rcv_73, s_Model_hamper_38, s_Model_hamper_41, s_Model_hamper_42, s_Model_hamper_43, s_Model_hamper_44, s_Model_hamper_47, s_Model_hamper_48, s_Model_hamper_49, s_Model_hamper_50, s_Model_hamper_53, s_Model_hamper_56, s_Model_hamper_57, s_Model_hamper_59, s_Model_hamper_60 rcv_73, s_Model_hamper_63, s_Model_hamper_66, s_Model_hamper_67, s_Model_hamper_70, s_Model_hamper_71, s_Model_hamper_72, s_Model_hamper_73, s_Model_hamper_74, s_Model_hamper_75, s_Model_hamper_76, s_Model_hamper_77, s_Model_hamper_78, s_Model_hamper_79, s_Model_hamper_82, s_Model_hamper_85, s_Model_hamper_86, s_Model_hamper_89, s_Model_hamper_90, s_Model_hamper_91, s_Model_hamper_92, s_Model_hamper_93, s_Model_hamper_94, s_Model_hamper_95, s_Model_hamper_97, s_Model_hamper_100, s_Model_hamper_101, s_Model_hamper_104, s_Model_hamper_105, s_Model_hamper_106, s_Model_hamper_107, s_Model_hamper_110, s_Model_hamper_113]
          rw [upF_s (by
            rw [eh]
            by_cases q4 : bm + 1 < 6
            · rw [if_pos (hlt.2 q4), nI_1]
            · rw [if_neg (fun w => q4 (hlt.1 w)), e6]; congr 1; omega)]
          exact i1
theorem mham_in (h : Rw C a I b n) (hb : b = 0 ∨ 26 ≤ b) : rn F (lv + 1) 131 [.ref 73, .int (nI b)] (HH I J) = some (none, HH (upF I 74 b (hamB C a) (2 * n)) J) := by
  have l2 := mham_l2 (F := F) (lv := lv) (J := J) h hb (2 * n) 0 (by omega)
  have l1 := mham_l1 (F := F) (lv := lv) (J := J) h (2 * n) 0 (by omega)
  rw [upF_0] at l2
  rw [e_Model_hamper]
  simp only [s_Model_hamper_0, s_Model_hamper_1, s_Model_hamper_2, s_Model_hamper_3]
  refine Eq.trans l1 ?_
  simp only [s_Model_hamper_56, s_Model_hamper_57]
  exact l2
end Mdl
