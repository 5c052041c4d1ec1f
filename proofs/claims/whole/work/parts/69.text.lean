/-! ===== Text: nextToken ===== -/
/-- the text with its token from s to e -/
def TI (I : Nat → Nat → Int32) (s e : Nat) : Nat → Nat → Int32 := up1 I 13 (upd (upd (I 13) 4 (nI s)) 5 (nI e))
section Txt
variable {F : jx_F} {lv : Nat} {I : Nat → Nat → Int32} {J : Nat → Nat → Int64} {s e : Nat}
theorem ti_ne {x : Nat} (h : x ≠ 13) : TI I s e x = I x := by unfold TI; exact up1_ne h
theorem ti_4 : TI I s e 13 4 = nI s := by unfold TI; rw [up1_eq, pk_un (by decide), pk_us]
theorem ti_5 : TI I s e 13 5 = nI e := by unfold TI; rw [up1_eq, pk_us]
theorem ti_j {j : Nat} (h4 : j ≠ 4) (h5 : j ≠ 5) : TI I s e 13 j = I 13 j := by unfold TI; rw [up1_eq, pk_un h5, pk_un h4]
theorem ti_2 : TI I s e 13 2 = I 13 2 := ti_j (by decide) (by decide)
theorem ti_p4 {t : Nat} : up2 (TI I s e) 13 4 (nI t) = TI I t e := by
  funext x
  by_cases hx : x = 13
  · subst hx
    funext y
    rw [up2_eq]
    by_cases h4 : y = 4
    · subst h4; rw [pk_us, ti_4]
    · rw [pk_un h4]
      by_cases h5 : y = 5
      · subst h5; rw [ti_5, ti_5]
      · rw [ti_j h4 h5, ti_j h4 h5]
  · rw [up2_ne hx, ti_ne hx, ti_ne hx]
theorem ti_p5 {t : Nat} : up2 (TI I s e) 13 5 (nI t) = TI I s t := by
  funext x
  by_cases hx : x = 13
  · subst hx
    funext y
    rw [up2_eq]
    by_cases h5 : y = 5
    · subst h5; rw [pk_us, ti_5]
    · rw [pk_un h5]
      by_cases h4 : y = 4
      · subst h4; rw [ti_4, ti_4]
      · rw [ti_j h4 h5, ti_j h4 h5]
  · rw [up2_ne hx, ti_ne hx, ti_ne hx]
theorem ti_up {c j : Nat} {v : Int32} (hc : c ≠ 13) : up2 (TI I s e) c j v = TI (up2 I c j v) s e := by
  funext x
  by_cases hx : x = 13
  · subst hx
    rw [up2_ne (fun q => hc q.symm)]
    unfold TI
    rw [up1_eq, up1_eq, up2_ne (fun q => hc q.symm)]
  · rw [ti_ne hx]
    by_cases hy : x = c
    · subst hy; rw [up2_eq, up2_eq, ti_ne hx]
    · rw [up2_ne hy, up2_ne hy, ti_ne hx]
theorem ti_self (h4 : I 13 4 = nI s) (h5 : I 13 5 = nI e) : TI I s e = I := by
  funext x
  by_cases hx : x = 13
  · subst hx
    funext y
    by_cases h : y = 4
    · subst h; rw [ti_4, h4]
    · by_cases h' : y = 5
      · subst h'; rw [ti_5, h5]
      · rw [ti_j h h']
  · rw [ti_ne hx]
/-- past the spaces from i on, of c letters -/
def skpN (I : Nat → Nat → Int32) : Nat → Nat → Nat
  | 0, i => i
  | c + 1, i => if I 14 i = 32 then skpN I c (i + 1) else i
/-- past the letters of a sort -/
def runN (I : Nat → Nat → Int32) (t : Int32) : Nat → Nat → Nat
  | 0, i => i
  | c + 1, i => if sortI (I 14 i) = t then runN I t c (i + 1) else i
theorem skp_loop {n : Nat} (en : I 13 2 = nI n) (hn : n ≤ 200) : ∀ (c i : Nat), i + c = n → ev F lv jm_Text_nextToken 8 [.ref 13, jx_junk] [] (HH (TI I i e) J) = ev F lv jm_Text_nextToken 46 [.ref 13, jx_junk] [] (HH (TI I (skpN I c i) e) J) := by
  intro c
  induction c with
  | zero =>
    intro i hi
    obtain rfl : i = n := by omega
    rw [s_Text_nextToken_8]
    simp only [s_Text_nextToken_0, s_Text_nextToken_1, s_Text_nextToken_2, s_Text_nextToken_5, s_Text_nextToken_9, s_Text_nextToken_12, s_Text_nextToken_13, s_Text_nextToken_16, s_Text_nextToken_19, s_Text_nextToken_20, s_Text_nextToken_23, s_Text_nextToken_24, s_Text_nextToken_27, s_Text_nextToken_28, s_Text_nextToken_30, s_Text_nextToken_33, s_Text_nextToken_34, s_Text_nextToken_35, s_Text_nextToken_38, s_Text_nextToken_39, s_Text_nextToken_40, s_Text_nextToken_43, s_Text_nextToken_47, s_Text_nextToken_48, s_Text_nextToken_51, s_Text_nextToken_54, s_Text_nextToken_55, s_Text_nextToken_58, s_Text_nextToken_59, s_Text_nextToken_62, s_Text_nextToken_65, s_Text_nextToken_66, s_Text_nextToken_67, s_Text_nextToken_70, s_Text_nextToken_71, s_Text_nextToken_74, s_Text_nextToken_75, s_Text_nextToken_78, s_Text_nextToken_79, s_Text_nextToken_80, s_Text_nextToken_81, s_Text_nextToken_84, s_Text_nextToken_85, s_Text_nextToken_86, s_Text_nextToken_89, s_Text_nextToken_90, s_Text_nextToken_93, s_Text_nextToken_94, s_Text_nextToken_97, s_Text_nextToken_98, s_Text_nextToken_101, s_Text_nextToken_104, s_Text_nextToken_105, s_Text_nextToken_108, s_Text_nextToken_109, s_Text_nextToken_112, s_Text_nextToken_113, s_Text_nextToken_116, s_Text_nextToken_117, s_Text_nextToken_120, s_Text_nextToken_121, s_Text_nextToken_122, s_Text_nextToken_125, s_Text_nextToken_126, s_Text_nextToken_127, s_Text_nextToken_130, s_Text_nextToken_133, g_13_2, g_13_4, ti_4, ti_2, en, if_pos (nI_le (Nat.le_refl i) (show i < 2 ^ 31 by omega)), skpN]
  | succ c ih =>
    intro i hi
    rw [s_Text_nextToken_8]
    simp only [s_Text_nextToken_0, s_Text_nextToken_1, s_Text_nextToken_2, s_Text_nextToken_5, s_Text_nextToken_9, s_Text_nextToken_12, s_Text_nextToken_13, s_Text_nextToken_16, s_Text_nextToken_19, s_Text_nextToken_20, s_Text_nextToken_23, s_Text_nextToken_24, s_Text_nextToken_27, s_Text_nextToken_28, s_Text_nextToken_30, s_Text_nextToken_33, s_Text_nextToken_34, s_Text_nextToken_35, s_Text_nextToken_38, s_Text_nextToken_39, s_Text_nextToken_40, s_Text_nextToken_43, s_Text_nextToken_47, s_Text_nextToken_48, s_Text_nextToken_51, s_Text_nextToken_54, s_Text_nextToken_55, s_Text_nextToken_58, s_Text_nextToken_59, s_Text_nextToken_62, s_Text_nextToken_65, s_Text_nextToken_66, s_Text_nextToken_67, s_Text_nextToken_70, s_Text_nextToken_71, s_Text_nextToken_74, s_Text_nextToken_75, s_Text_nextToken_78, s_Text_nextToken_79, s_Text_nextToken_80, s_Text_nextToken_81, s_Text_nextToken_84, s_Text_nextToken_85, s_Text_nextToken_86, s_Text_nextToken_89, s_Text_nextToken_90, s_Text_nextToken_93, s_Text_nextToken_94, s_Text_nextToken_97, s_Text_nextToken_98, s_Text_nextToken_101, s_Text_nextToken_104, s_Text_nextToken_105, s_Text_nextToken_108, s_Text_nextToken_109, s_Text_nextToken_112, s_Text_nextToken_113, s_Text_nextToken_116, s_Text_nextToken_117, s_Text_nextToken_120, s_Text_nextToken_121, s_Text_nextToken_122, s_Text_nextToken_125, s_Text_nextToken_126, s_Text_nextToken_127, s_Text_nextToken_130, s_Text_nextToken_133, g_13_0, g_13_2, g_13_4, ti_4, ti_2, en, if_neg (nI_ge (show i < n by omega) (show n < 2 ^ 31 by omega)), gi_14, at_in (show i < 200 by omega) (show 200 < 2 ^ 31 by decide), nI_clamp (show i < 2 ^ 31 by omega), ti_ne (show 14 ≠ 13 by decide), nI_1, p_13_4, ti_p4, ih (i + 1) (show i + 1 + c = n by omega), skpN]
    by_cases q : I 14 i = 32
    · simp only [if_pos q]
    · simp only [if_neg q]
theorem run_loop {n : Nat} {t : Int32} (ht : ¬ t = 0) (en : I 13 2 = nI n) (hn : n ≤ 200) : ∀ (c i : Nat), i + c = n → ev F (lv + 1) jm_Text_nextToken 89 [.ref 13, .int t] [] (HH (TI I s i) J) = some (none, HH (TI I s (runN I t c i)) J) := by
  intro c
  induction c with
  | zero =>
    intro i hi
    obtain rfl : i = n := by omega
    rw [s_Text_nextToken_89]
    simp only [s_Text_nextToken_0, s_Text_nextToken_1, s_Text_nextToken_2, s_Text_nextToken_5, s_Text_nextToken_8, s_Text_nextToken_9, s_Text_nextToken_12, s_Text_nextToken_13, s_Text_nextToken_16, s_Text_nextToken_19, s_Text_nextToken_20, s_Text_nextToken_23, s_Text_nextToken_24, s_Text_nextToken_27, s_Text_nextToken_28, s_Text_nextToken_30, s_Text_nextToken_33, s_Text_nextToken_34, s_Text_nextToken_35, s_Text_nextToken_38, s_Text_nextToken_39, s_Text_nextToken_40, s_Text_nextToken_43, s_Text_nextToken_46, s_Text_nextToken_47, s_Text_nextToken_48, s_Text_nextToken_51, s_Text_nextToken_54, s_Text_nextToken_55, s_Text_nextToken_58, s_Text_nextToken_59, s_Text_nextToken_62, s_Text_nextToken_65, s_Text_nextToken_66, s_Text_nextToken_67, s_Text_nextToken_70, s_Text_nextToken_71, s_Text_nextToken_74, s_Text_nextToken_75, s_Text_nextToken_78, s_Text_nextToken_79, s_Text_nextToken_80, s_Text_nextToken_81, s_Text_nextToken_84, s_Text_nextToken_85, s_Text_nextToken_86, s_Text_nextToken_90, s_Text_nextToken_93, s_Text_nextToken_94, s_Text_nextToken_97, s_Text_nextToken_98, s_Text_nextToken_101, s_Text_nextToken_104, s_Text_nextToken_105, s_Text_nextToken_108, s_Text_nextToken_109, s_Text_nextToken_112, s_Text_nextToken_113, s_Text_nextToken_116, s_Text_nextToken_117, s_Text_nextToken_120, s_Text_nextToken_121, s_Text_nextToken_122, s_Text_nextToken_125, s_Text_nextToken_126, s_Text_nextToken_127, s_Text_nextToken_130, s_Text_nextToken_133, if_neg ht, g_13_2, g_13_5, ti_5, ti_2, en, if_pos (nI_le (Nat.le_refl i) (show i < 2 ^ 31 by omega)), runN]
  | succ c ih =>
    intro i hi
    rw [s_Text_nextToken_89]
    simp only [s_Text_nextToken_0, s_Text_nextToken_1, s_Text_nextToken_2, s_Text_nextToken_5, s_Text_nextToken_8, s_Text_nextToken_9, s_Text_nextToken_12, s_Text_nextToken_13, s_Text_nextToken_16, s_Text_nextToken_19, s_Text_nextToken_20, s_Text_nextToken_23, s_Text_nextToken_24, s_Text_nextToken_27, s_Text_nextToken_28, s_Text_nextToken_30, s_Text_nextToken_33, s_Text_nextToken_34, s_Text_nextToken_35, s_Text_nextToken_38, s_Text_nextToken_39, s_Text_nextToken_40, s_Text_nextToken_43, s_Text_nextToken_46, s_Text_nextToken_47, s_Text_nextToken_48, s_Text_nextToken_51, s_Text_nextToken_54, s_Text_nextToken_55, s_Text_nextToken_58, s_Text_nextToken_59, s_Text_nextToken_62, s_Text_nextToken_65, s_Text_nextToken_66, s_Text_nextToken_67, s_Text_nextToken_70, s_Text_nextToken_71, s_Text_nextToken_74, s_Text_nextToken_75, s_Text_nextToken_78, s_Text_nextToken_79, s_Text_nextToken_80, s_Text_nextToken_81, s_Text_nextToken_84, s_Text_nextToken_85, s_Text_nextToken_86, s_Text_nextToken_90, s_Text_nextToken_93, s_Text_nextToken_94, s_Text_nextToken_97, s_Text_nextToken_98, s_Text_nextToken_101, s_Text_nextToken_104, s_Text_nextToken_105, s_Text_nextToken_108, s_Text_nextToken_109, s_Text_nextToken_112, s_Text_nextToken_113, s_Text_nextToken_116, s_Text_nextToken_117, s_Text_nextToken_120, s_Text_nextToken_121, s_Text_nextToken_122, s_Text_nextToken_125, s_Text_nextToken_126, s_Text_nextToken_127, s_Text_nextToken_130, s_Text_nextToken_133, if_neg ht, g_13_0, g_13_2, g_13_5, ti_5, ti_2, en, if_neg (nI_ge (show i < n by omega) (show n < 2 ^ 31 by omega)), gi_14, at_in (show i < 200 by omega) (show 200 < 2 ^ 31 by decide), nI_clamp (show i < 2 ^ 31 by omega), ti_ne (show 14 ≠ 13 by decide), sort_eq, Option.bind_some, Option.toList_some, List.cons_append, List.nil_append, nI_1, p_13_5, ti_p5, ih (i + 1) (show i + 1 + c = n by omega), runN]
    by_cases q : sortI (I 14 i) = t
    · simp only [if_pos q]
    · simp only [if_neg q]
theorem skp_le : ∀ (c i : Nat), skpN I c i ≤ i + c := by
  intro c
  induction c with
  | zero => intro i; exact Nat.le_refl _
  | succ c ih =>
    intro i
    unfold skpN
    split
    · have := ih (i + 1); omega
    · omega
/-- the end of the token from s on -/
def endN (I : Nat → Nat → Int32) (n s : Nat) : Nat := if s < n then (if sortI (I 14 s) = 0 then s + 1 else runN I (sortI (I 14 s)) (n - (s + 1)) (s + 1)) else s
theorem next_in {n : Nat} (en : I 13 2 = nI n) (hn : n ≤ 200) (he : e ≤ n) : rn F (lv + 1) 60 [.ref 13] (HH (TI I s e) J) = some (none, HH (TI I (skpN I (n - e) e) (endN I n (skpN I (n - e) e))) J) := by
  have hs : skpN I (n - e) e ≤ n := by have := skp_le (I := I) (n - e) e; omega
  have l := skp_loop (F := F) (lv := lv + 1) (J := J) (e := e) en hn (n - e) e (by omega)
  rw [e_Text_nextToken]
  simp only [s_Text_nextToken_0, s_Text_nextToken_1, s_Text_nextToken_2, s_Text_nextToken_5, g_13_5, ti_5, p_13_4, ti_p4]
  refine Eq.trans l ?_
  generalize skpN I (n - e) e = z at hs ⊢
  simp only [s_Text_nextToken_0, s_Text_nextToken_1, s_Text_nextToken_2, s_Text_nextToken_5, s_Text_nextToken_9, s_Text_nextToken_12, s_Text_nextToken_13, s_Text_nextToken_16, s_Text_nextToken_19, s_Text_nextToken_20, s_Text_nextToken_23, s_Text_nextToken_24, s_Text_nextToken_27, s_Text_nextToken_28, s_Text_nextToken_30, s_Text_nextToken_33, s_Text_nextToken_34, s_Text_nextToken_35, s_Text_nextToken_38, s_Text_nextToken_39, s_Text_nextToken_40, s_Text_nextToken_43, s_Text_nextToken_46, s_Text_nextToken_47, s_Text_nextToken_48, s_Text_nextToken_51, s_Text_nextToken_54, s_Text_nextToken_55, s_Text_nextToken_58, s_Text_nextToken_59, s_Text_nextToken_62, s_Text_nextToken_65, s_Text_nextToken_66, s_Text_nextToken_67, s_Text_nextToken_70, s_Text_nextToken_71, s_Text_nextToken_74, s_Text_nextToken_75, s_Text_nextToken_78, s_Text_nextToken_79, s_Text_nextToken_80, s_Text_nextToken_81, s_Text_nextToken_84, s_Text_nextToken_85, s_Text_nextToken_86, s_Text_nextToken_90, s_Text_nextToken_93, s_Text_nextToken_94, s_Text_nextToken_97, s_Text_nextToken_98, s_Text_nextToken_101, s_Text_nextToken_104, s_Text_nextToken_105, s_Text_nextToken_108, s_Text_nextToken_109, s_Text_nextToken_112, s_Text_nextToken_113, s_Text_nextToken_116, s_Text_nextToken_117, s_Text_nextToken_120, s_Text_nextToken_121, s_Text_nextToken_122, s_Text_nextToken_125, s_Text_nextToken_126, s_Text_nextToken_127, s_Text_nextToken_130, s_Text_nextToken_133, g_13_0, g_13_2, g_13_4, g_13_5, ti_4, ti_2, ti_5, p_13_5, ti_p5, en]
  by_cases q : z < n
  · simp only [if_pos (nI_lt q (show n < 2 ^ 31 by omega)), gi_14, at_in (show z < 200 by omega) (show 200 < 2 ^ 31 by decide), nI_clamp (show z < 2 ^ 31 by omega), ti_ne (show 14 ≠ 13 by decide), sort_eq, Option.bind_some, Option.toList_some, List.cons_append, List.nil_append, s_Text_nextToken_0, s_Text_nextToken_1, s_Text_nextToken_2, s_Text_nextToken_5, s_Text_nextToken_9, s_Text_nextToken_12, s_Text_nextToken_13, s_Text_nextToken_16, s_Text_nextToken_19, s_Text_nextToken_20, s_Text_nextToken_23, s_Text_nextToken_24, s_Text_nextToken_27, s_Text_nextToken_28, s_Text_nextToken_30, s_Text_nextToken_33, s_Text_nextToken_34, s_Text_nextToken_35, s_Text_nextToken_38, s_Text_nextToken_39, s_Text_nextToken_40, s_Text_nextToken_43, s_Text_nextToken_46, s_Text_nextToken_47, s_Text_nextToken_48, s_Text_nextToken_51, s_Text_nextToken_54, s_Text_nextToken_55, s_Text_nextToken_58, s_Text_nextToken_59, s_Text_nextToken_62, s_Text_nextToken_65, s_Text_nextToken_66, s_Text_nextToken_67, s_Text_nextToken_70, s_Text_nextToken_71, s_Text_nextToken_74, s_Text_nextToken_75, s_Text_nextToken_78, s_Text_nextToken_79, s_Text_nextToken_80, s_Text_nextToken_81, s_Text_nextToken_84, s_Text_nextToken_85, s_Text_nextToken_86, s_Text_nextToken_90, s_Text_nextToken_93, s_Text_nextToken_94, s_Text_nextToken_97, s_Text_nextToken_98, s_Text_nextToken_101, s_Text_nextToken_104, s_Text_nextToken_105, s_Text_nextToken_108, s_Text_nextToken_109, s_Text_nextToken_112, s_Text_nextToken_113, s_Text_nextToken_116, s_Text_nextToken_117, s_Text_nextToken_120, s_Text_nextToken_121, s_Text_nextToken_122, s_Text_nextToken_125, s_Text_nextToken_126, s_Text_nextToken_127, s_Text_nextToken_130, s_Text_nextToken_133, g_13_5, ti_5, nI_1, p_13_5, ti_p5, endN, if_pos q]
    by_cases t : sortI (I 14 z) = 0
    · rw [s_Text_nextToken_89]
      simp only [s_Text_nextToken_0, s_Text_nextToken_1, s_Text_nextToken_2, s_Text_nextToken_5, s_Text_nextToken_9, s_Text_nextToken_12, s_Text_nextToken_13, s_Text_nextToken_16, s_Text_nextToken_19, s_Text_nextToken_20, s_Text_nextToken_23, s_Text_nextToken_24, s_Text_nextToken_27, s_Text_nextToken_28, s_Text_nextToken_30, s_Text_nextToken_33, s_Text_nextToken_34, s_Text_nextToken_35, s_Text_nextToken_38, s_Text_nextToken_39, s_Text_nextToken_40, s_Text_nextToken_43, s_Text_nextToken_46, s_Text_nextToken_47, s_Text_nextToken_48, s_Text_nextToken_51, s_Text_nextToken_54, s_Text_nextToken_55, s_Text_nextToken_58, s_Text_nextToken_59, s_Text_nextToken_62, s_Text_nextToken_65, s_Text_nextToken_66, s_Text_nextToken_67, s_Text_nextToken_70, s_Text_nextToken_71, s_Text_nextToken_74, s_Text_nextToken_75, s_Text_nextToken_78, s_Text_nextToken_79, s_Text_nextToken_80, s_Text_nextToken_81, s_Text_nextToken_84, s_Text_nextToken_85, s_Text_nextToken_86, s_Text_nextToken_90, s_Text_nextToken_93, s_Text_nextToken_94, s_Text_nextToken_97, s_Text_nextToken_98, s_Text_nextToken_101, s_Text_nextToken_104, s_Text_nextToken_105, s_Text_nextToken_108, s_Text_nextToken_109, s_Text_nextToken_112, s_Text_nextToken_113, s_Text_nextToken_116, s_Text_nextToken_117, s_Text_nextToken_120, s_Text_nextToken_121, s_Text_nextToken_122, s_Text_nextToken_125, s_Text_nextToken_126, s_Text_nextToken_127, s_Text_nextToken_130, s_Text_nextToken_133, t, if_true]
    · rw [if_neg t]
      exact run_loop t en hn (n - (z + 1)) (z + 1) (by omega)
  · simp only [if_neg (nI_nlt (show n ≤ z by omega) (show z < 2 ^ 31 by omega)), endN, if_neg q]
end Txt
