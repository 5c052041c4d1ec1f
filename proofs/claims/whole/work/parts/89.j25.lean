/-! ===== the Model: tokens ===== -/
/-- the Model's text with its token from s to e -/
def MI (I : Nat → Nat → Int32) (s e : Nat) : Nat → Nat → Int32 := up1 I 73 (upd (upd (I 73) 12 (nI s)) 13 (nI e))
section Mtx
variable {F : jx_F} {lv : Nat} {I X : Nat → Nat → Int32} {J : Nat → Nat → Int64} {s e n : Nat}
theorem mi_ne {x : Nat} (h : x ≠ 73) : MI I s e x = I x := by unfold MI; exact up1_ne h
theorem mi_12 : MI I s e 73 12 = nI s := by unfold MI; rw [up1_eq, pk_un (by decide), pk_us]
theorem mi_13 : MI I s e 73 13 = nI e := by unfold MI; rw [up1_eq, pk_us]
theorem mi_j {j : Nat} (h4 : j ≠ 12) (h5 : j ≠ 13) : MI I s e 73 j = I 73 j := by unfold MI; rw [up1_eq, pk_un h5, pk_un h4]
theorem mi_4 : MI I s e 73 4 = I 73 4 := mi_j (by decide) (by decide)
theorem mi_p12 {t : Nat} : up2 (MI I s e) 73 12 (nI t) = MI I t e := by
  funext x
  by_cases hx : x = 73
  · subst hx
    funext y
    rw [up2_eq]
    by_cases h4 : y = 12
    · subst h4; rw [pk_us, mi_12]
    · rw [pk_un h4]
      by_cases h5 : y = 13
      · subst h5; rw [mi_13, mi_13]
      · rw [mi_j h4 h5, mi_j h4 h5]
  · rw [up2_ne hx, mi_ne hx, mi_ne hx]
theorem mi_p13 {t : Nat} : up2 (MI I s e) 73 13 (nI t) = MI I s t := by
  funext x
  by_cases hx : x = 73
  · subst hx
    funext y
    rw [up2_eq]
    by_cases h5 : y = 13
    · subst h5; rw [pk_us, mi_13]
    · rw [pk_un h5]
      by_cases h4 : y = 12
      · subst h4; rw [mi_12, mi_12]
      · rw [mi_j h4 h5, mi_j h4 h5]
  · rw [up2_ne hx, mi_ne hx, mi_ne hx]
theorem mi_up {c j : Nat} {v : Int32} (hc : c ≠ 73) : up2 (MI I s e) c j v = MI (up2 I c j v) s e := by
  funext x
  by_cases hx : x = 73
  · subst hx
    rw [up2_ne (fun q => hc q.symm)]
    unfold MI
    rw [up1_eq, up1_eq, up2_ne (fun q => hc q.symm)]
  · rw [mi_ne hx]
    by_cases hy : x = c
    · subst hy; rw [up2_eq, up2_eq, mi_ne hx]
    · rw [up2_ne hy, up2_ne hy, mi_ne hx]
theorem mi_self (h4 : I 73 12 = nI s) (h5 : I 73 13 = nI e) : MI I s e = I := by
  funext x
  by_cases hx : x = 73
  · subst hx
    funext y
    by_cases h : y = 12
    · subst h; rw [mi_12, h4]
    · by_cases h' : y = 13
      · subst h'; rw [mi_13, h5]
      · rw [mi_j h h']
  · rw [mi_ne hx]
/-- the letters of the Model's text -/
def KX (X : Nat → Nat → Int32) : Nat → Nat → Int32 := fun _ => X 76
theorem i64_97 : (97 : Int64) = (97 : Int32).toInt64 := rfl
theorem i64_122 : (122 : Int64) = (122 : Int32).toInt64 := rfl
theorem i64_48 : (48 : Int64) = (48 : Int32).toInt64 := rfl
theorem i64_57 : (57 : Int64) = (57 : Int32).toInt64 := rfl
theorem let_eq {x : Int32} : (if x < 97 then (0 : Int32) else if 122 < x then 0 else 1) = if sortI x = 1 then 1 else 0 := by
  unfold sortI
  by_cases q1 : x < 97
  · simp only [if_pos q1]
    by_cases q2 : x < 48
    · simp only [if_pos q2]; rfl
    · simp only [if_neg q2]
      by_cases q3 : (57 : Int32) < x
      · simp only [if_pos q3]; rfl
      · simp only [if_neg q3]; rfl
  · simp only [if_neg q1]
    by_cases q4 : (122 : Int32) < x
    · simp only [if_pos q4]
      by_cases q2 : x < 48
      · simp only [if_pos q2]; rfl
      · simp only [if_neg q2]
        by_cases q3 : (57 : Int32) < x
        · simp only [if_pos q3]; rfl
        · simp only [if_neg q3]; rfl
    · simp only [if_neg q4, if_true]
theorem dig_eq {x : Int32} : (if x < 48 then (0 : Int32) else if 57 < x then 0 else 1) = if sortI x = 2 then 1 else 0 := by
  unfold sortI
  by_cases q1 : x < 97
  · simp only [if_pos q1]
    by_cases q2 : x < 48
    · simp only [if_pos q2]; rfl
    · simp only [if_neg q2]
      by_cases q3 : (57 : Int32) < x
      · simp only [if_pos q3]; rfl
      · simp only [if_neg q3]; rfl
  · simp only [if_neg q1]
    have q2 : ¬ x < 48 := fun w => q1 (by rw [Int32.lt_iff_toInt_lt] at w ⊢; exact Int.lt_trans w (by decide))
    have q3 : (57 : Int32) < x := by
      rw [Int32.not_lt, Int32.le_iff_toInt_le] at q1
      rw [Int32.lt_iff_toInt_lt]
      exact Int.lt_of_lt_of_le (by decide) q1
    simp only [if_neg q2, if_pos q3]
    by_cases q4 : (122 : Int32) < x
    · simp only [if_pos q4]; rfl
    · simp only [if_neg q4]; rfl
theorem isLet_in {h : jx_H} {x : Int32} : rn F (lv + 1) 109 [.int x] h = some (some (.int (if sortI x = 1 then 1 else 0)), h) := by
  have e := in_int (F := F) (lv := lv) (h := h) (x := x) (lo := 97) (hi := 122)
  rw [let_eq] at e
  by_cases q : sortI x = 1
  · rw [if_pos q] at e ⊢
    simp only [e_Model_isLetter, s_Model_isLetter_0, s_Model_isLetter_1, s_Model_isLetter_2, s_Model_isLetter_5, s_Model_isLetter_8, i64_97, i64_122, e, Option.bind_some, Option.toList_some, Option.toList_none, List.cons_append, List.nil_append, i10, i01, if_false, if_true, nI_add, nI_1, ro_Model_isLetter_11]
  · rw [if_neg q] at e ⊢
    simp only [e_Model_isLetter, s_Model_isLetter_0, s_Model_isLetter_1, s_Model_isLetter_2, s_Model_isLetter_5, s_Model_isLetter_8, i64_97, i64_122, e, Option.bind_some, Option.toList_some, Option.toList_none, List.cons_append, List.nil_append, i10, i01, if_false, if_true, nI_add, nI_1, rz_Model_isLetter_11]
theorem isDig_in {h : jx_H} {x : Int32} : rn F (lv + 1) 110 [.int x] h = some (some (.int (if sortI x = 2 then 1 else 0)), h) := by
  have e := in_int (F := F) (lv := lv) (h := h) (x := x) (lo := 48) (hi := 57)
  rw [dig_eq] at e
  by_cases q : sortI x = 2
  · rw [if_pos q] at e ⊢
    simp only [e_Model_isDigit, s_Model_isDigit_0, s_Model_isDigit_1, s_Model_isDigit_2, s_Model_isDigit_5, s_Model_isDigit_8, i64_48, i64_57, e, Option.bind_some, Option.toList_some, Option.toList_none, List.cons_append, List.nil_append, i10, i01, if_false, if_true, nI_add, nI_1, ro_Model_isDigit_11]
  · rw [if_neg q] at e ⊢
    simp only [e_Model_isDigit, s_Model_isDigit_0, s_Model_isDigit_1, s_Model_isDigit_2, s_Model_isDigit_5, s_Model_isDigit_8, i64_48, i64_57, e, Option.bind_some, Option.toList_some, Option.toList_none, List.cons_append, List.nil_append, i10, i01, if_false, if_true, nI_add, nI_1, rz_Model_isDigit_11]
theorem g76 {α : Type} {k : Nat} {f : Int32 → Option α} (hk : k < 200) : jx_gi (HH X J) 0 76 (nI k) f = f (X 76 k) := by rw [gi_76, at_in hk (by decide), nI_clamp (by omega)]
theorem mskp_loop (en : X 73 4 = nI n) (hn : n ≤ 200) : ∀ (c i : Nat), i + c = n → ev F lv jm_Model_nextToken 8 [.ref 73] [] (HH (MI X i e) J) = ev F lv jm_Model_nextToken 46 [.ref 73] [] (HH (MI X (skpN (KX X) c i) e) J) := by
  intro c
  induction c with
  | zero =>
    intro i hi
    obtain rfl : i = n := by omega
    rw [s_Model_nextToken_8]
    simp only [s_Model_nextToken_0, s_Model_nextToken_1, s_Model_nextToken_2, s_Model_nextToken_5, s_Model_nextToken_9, s_Model_nextToken_12, s_Model_nextToken_13, s_Model_nextToken_16, s_Model_nextToken_19, s_Model_nextToken_20, s_Model_nextToken_23, s_Model_nextToken_24, s_Model_nextToken_27, s_Model_nextToken_28, s_Model_nextToken_30, s_Model_nextToken_33, s_Model_nextToken_34, s_Model_nextToken_35, s_Model_nextToken_38, s_Model_nextToken_39, s_Model_nextToken_40, s_Model_nextToken_43, s_Model_nextToken_47, s_Model_nextToken_48, s_Model_nextToken_51, s_Model_nextToken_52, s_Model_nextToken_55, s_Model_nextToken_58, s_Model_nextToken_59, s_Model_nextToken_62, s_Model_nextToken_63, s_Model_nextToken_64, s_Model_nextToken_67, s_Model_nextToken_68, s_Model_nextToken_71, s_Model_nextToken_74, s_Model_nextToken_75, s_Model_nextToken_78, s_Model_nextToken_79, s_Model_nextToken_82, s_Model_nextToken_85, s_Model_nextToken_86, s_Model_nextToken_89, s_Model_nextToken_90, s_Model_nextToken_93, s_Model_nextToken_94, s_Model_nextToken_97, s_Model_nextToken_100, s_Model_nextToken_101, s_Model_nextToken_104, s_Model_nextToken_105, s_Model_nextToken_108, s_Model_nextToken_111, s_Model_nextToken_112, s_Model_nextToken_115, s_Model_nextToken_116, s_Model_nextToken_119, s_Model_nextToken_120, s_Model_nextToken_123, s_Model_nextToken_126, s_Model_nextToken_127, s_Model_nextToken_128, s_Model_nextToken_131, s_Model_nextToken_132, s_Model_nextToken_133, s_Model_nextToken_136, s_Model_nextToken_139, s_Model_nextToken_140, s_Model_nextToken_143, s_Model_nextToken_144, s_Model_nextToken_147, s_Model_nextToken_150, s_Model_nextToken_151, s_Model_nextToken_154, s_Model_nextToken_155, s_Model_nextToken_158, s_Model_nextToken_159, s_Model_nextToken_162, s_Model_nextToken_165, s_Model_nextToken_166, s_Model_nextToken_169, s_Model_nextToken_170, s_Model_nextToken_173, s_Model_nextToken_176, s_Model_nextToken_177, s_Model_nextToken_180, s_Model_nextToken_181, s_Model_nextToken_184, s_Model_nextToken_185, s_Model_nextToken_188, s_Model_nextToken_191, s_Model_nextToken_192, s_Model_nextToken_193, s_Model_nextToken_196, s_Model_nextToken_197, s_Model_nextToken_198, s_Model_nextToken_201, s_Model_nextToken_204, g_73_4, g_73_12, mi_12, mi_4, en, if_pos (nI_le (Nat.le_refl i) (show i < 2 ^ 31 by omega)), skpN]
  | succ c ih =>
    intro i hi
    have ef : skpN (KX X) (c + 1) i = if X 76 i = 32 then skpN (KX X) c (i + 1) else i := rfl
    rw [s_Model_nextToken_8, ef]
    simp only [s_Model_nextToken_0, s_Model_nextToken_1, s_Model_nextToken_2, s_Model_nextToken_5, s_Model_nextToken_9, s_Model_nextToken_12, s_Model_nextToken_13, s_Model_nextToken_16, s_Model_nextToken_19, s_Model_nextToken_20, s_Model_nextToken_23, s_Model_nextToken_24, s_Model_nextToken_27, s_Model_nextToken_28, s_Model_nextToken_30, s_Model_nextToken_33, s_Model_nextToken_34, s_Model_nextToken_35, s_Model_nextToken_38, s_Model_nextToken_39, s_Model_nextToken_40, s_Model_nextToken_43, s_Model_nextToken_47, s_Model_nextToken_48, s_Model_nextToken_51, s_Model_nextToken_52, s_Model_nextToken_55, s_Model_nextToken_58, s_Model_nextToken_59, s_Model_nextToken_62, s_Model_nextToken_63, s_Model_nextToken_64, s_Model_nextToken_67, s_Model_nextToken_68, s_Model_nextToken_71, s_Model_nextToken_74, s_Model_nextToken_75, s_Model_nextToken_78, s_Model_nextToken_79, s_Model_nextToken_82, s_Model_nextToken_85, s_Model_nextToken_86, s_Model_nextToken_89, s_Model_nextToken_90, s_Model_nextToken_93, s_Model_nextToken_94, s_Model_nextToken_97, s_Model_nextToken_100, s_Model_nextToken_101, s_Model_nextToken_104, s_Model_nextToken_105, s_Model_nextToken_108, s_Model_nextToken_111, s_Model_nextToken_112, s_Model_nextToken_115, s_Model_nextToken_116, s_Model_nextToken_119, s_Model_nextToken_120, s_Model_nextToken_123, s_Model_nextToken_126, s_Model_nextToken_127, s_Model_nextToken_128, s_Model_nextToken_131, s_Model_nextToken_132, s_Model_nextToken_133, s_Model_nextToken_136, s_Model_nextToken_139, s_Model_nextToken_140, s_Model_nextToken_143, s_Model_nextToken_144, s_Model_nextToken_147, s_Model_nextToken_150, s_Model_nextToken_151, s_Model_nextToken_154, s_Model_nextToken_155, s_Model_nextToken_158, s_Model_nextToken_159, s_Model_nextToken_162, s_Model_nextToken_165, s_Model_nextToken_166, s_Model_nextToken_169, s_Model_nextToken_170, s_Model_nextToken_173, s_Model_nextToken_176, s_Model_nextToken_177, s_Model_nextToken_180, s_Model_nextToken_181, s_Model_nextToken_184, s_Model_nextToken_185, s_Model_nextToken_188, s_Model_nextToken_191, s_Model_nextToken_192, s_Model_nextToken_193, s_Model_nextToken_196, s_Model_nextToken_197, s_Model_nextToken_198, s_Model_nextToken_201, s_Model_nextToken_204, g_73_3, g_73_4, g_73_12, mi_12, mi_4, en, if_neg (nI_ge (show i < n by omega) (show n < 2 ^ 31 by omega)), g76 (show i < 200 by omega), mi_ne (show 76 ≠ 73 by decide), nI_1, p_73_12, mi_p12, ih (i + 1) (show i + 1 + c = n by omega)]
    by_cases q : X 76 i = 32
    · simp only [if_pos q]
    · simp only [if_neg q]
theorem mlet_loop (en : X 73 4 = nI n) (hn : n ≤ 200) : ∀ (c i : Nat), i + c = n → ev F (lv + 2) jm_Model_nextToken 100 [.ref 73] [] (HH (MI X s i) J) = some (none, HH (MI X s (runN (KX X) 1 c i)) J) := by
  intro c
  induction c with
  | zero =>
    intro i hi
    obtain rfl : i = n := by omega
    rw [s_Model_nextToken_100]
    simp only [s_Model_nextToken_0, s_Model_nextToken_1, s_Model_nextToken_2, s_Model_nextToken_5, s_Model_nextToken_8, s_Model_nextToken_9, s_Model_nextToken_12, s_Model_nextToken_13, s_Model_nextToken_16, s_Model_nextToken_19, s_Model_nextToken_20, s_Model_nextToken_23, s_Model_nextToken_24, s_Model_nextToken_27, s_Model_nextToken_28, s_Model_nextToken_30, s_Model_nextToken_33, s_Model_nextToken_34, s_Model_nextToken_35, s_Model_nextToken_38, s_Model_nextToken_39, s_Model_nextToken_40, s_Model_nextToken_43, s_Model_nextToken_46, s_Model_nextToken_47, s_Model_nextToken_48, s_Model_nextToken_51, s_Model_nextToken_52, s_Model_nextToken_55, s_Model_nextToken_58, s_Model_nextToken_59, s_Model_nextToken_62, s_Model_nextToken_63, s_Model_nextToken_64, s_Model_nextToken_67, s_Model_nextToken_68, s_Model_nextToken_71, s_Model_nextToken_74, s_Model_nextToken_75, s_Model_nextToken_78, s_Model_nextToken_79, s_Model_nextToken_82, s_Model_nextToken_85, s_Model_nextToken_86, s_Model_nextToken_89, s_Model_nextToken_90, s_Model_nextToken_93, s_Model_nextToken_94, s_Model_nextToken_97, s_Model_nextToken_101, s_Model_nextToken_104, s_Model_nextToken_105, s_Model_nextToken_108, s_Model_nextToken_111, s_Model_nextToken_112, s_Model_nextToken_115, s_Model_nextToken_116, s_Model_nextToken_119, s_Model_nextToken_120, s_Model_nextToken_123, s_Model_nextToken_126, s_Model_nextToken_127, s_Model_nextToken_128, s_Model_nextToken_131, s_Model_nextToken_132, s_Model_nextToken_133, s_Model_nextToken_136, s_Model_nextToken_139, s_Model_nextToken_140, s_Model_nextToken_143, s_Model_nextToken_144, s_Model_nextToken_147, s_Model_nextToken_150, s_Model_nextToken_151, s_Model_nextToken_154, s_Model_nextToken_155, s_Model_nextToken_158, s_Model_nextToken_159, s_Model_nextToken_162, s_Model_nextToken_165, s_Model_nextToken_166, s_Model_nextToken_169, s_Model_nextToken_170, s_Model_nextToken_173, s_Model_nextToken_176, s_Model_nextToken_177, s_Model_nextToken_180, s_Model_nextToken_181, s_Model_nextToken_184, s_Model_nextToken_185, s_Model_nextToken_188, s_Model_nextToken_191, s_Model_nextToken_192, s_Model_nextToken_193, s_Model_nextToken_196, s_Model_nextToken_197, s_Model_nextToken_198, s_Model_nextToken_201, s_Model_nextToken_204, g_73_4, g_73_13, mi_13, mi_4, en, if_pos (nI_le (Nat.le_refl i) (show i < 2 ^ 31 by omega)), runN]
  | succ c ih =>
    intro i hi
    have ef : runN (KX X) 1 (c + 1) i = if sortI (X 76 i) = 1 then runN (KX X) 1 c (i + 1) else i := rfl
    rw [s_Model_nextToken_100, ef]
    simp only [s_Model_nextToken_0, s_Model_nextToken_1, s_Model_nextToken_2, s_Model_nextToken_5, s_Model_nextToken_8, s_Model_nextToken_9, s_Model_nextToken_12, s_Model_nextToken_13, s_Model_nextToken_16, s_Model_nextToken_19, s_Model_nextToken_20, s_Model_nextToken_23, s_Model_nextToken_24, s_Model_nextToken_27, s_Model_nextToken_28, s_Model_nextToken_30, s_Model_nextToken_33, s_Model_nextToken_34, s_Model_nextToken_35, s_Model_nextToken_38, s_Model_nextToken_39, s_Model_nextToken_40, s_Model_nextToken_43, s_Model_nextToken_46, s_Model_nextToken_47, s_Model_nextToken_48, s_Model_nextToken_51, s_Model_nextToken_52, s_Model_nextToken_55, s_Model_nextToken_58, s_Model_nextToken_59, s_Model_nextToken_62, s_Model_nextToken_63, s_Model_nextToken_64, s_Model_nextToken_67, s_Model_nextToken_68, s_Model_nextToken_71, s_Model_nextToken_74, s_Model_nextToken_75, s_Model_nextToken_78, s_Model_nextToken_79, s_Model_nextToken_82, s_Model_nextToken_85, s_Model_nextToken_86, s_Model_nextToken_89, s_Model_nextToken_90, s_Model_nextToken_93, s_Model_nextToken_94, s_Model_nextToken_97, s_Model_nextToken_101, s_Model_nextToken_104, s_Model_nextToken_105, s_Model_nextToken_108, s_Model_nextToken_111, s_Model_nextToken_112, s_Model_nextToken_115, s_Model_nextToken_116, s_Model_nextToken_119, s_Model_nextToken_120, s_Model_nextToken_123, s_Model_nextToken_126, s_Model_nextToken_127, s_Model_nextToken_128, s_Model_nextToken_131, s_Model_nextToken_132, s_Model_nextToken_133, s_Model_nextToken_136, s_Model_nextToken_139, s_Model_nextToken_140, s_Model_nextToken_143, s_Model_nextToken_144, s_Model_nextToken_147, s_Model_nextToken_150, s_Model_nextToken_151, s_Model_nextToken_154, s_Model_nextToken_155, s_Model_nextToken_158, s_Model_nextToken_159, s_Model_nextToken_162, s_Model_nextToken_165, s_Model_nextToken_166, s_Model_nextToken_169, s_Model_nextToken_170, s_Model_nextToken_173, s_Model_nextToken_176, s_Model_nextToken_177, s_Model_nextToken_180, s_Model_nextToken_181, s_Model_nextToken_184, s_Model_nextToken_185, s_Model_nextToken_188, s_Model_nextToken_191, s_Model_nextToken_192, s_Model_nextToken_193, s_Model_nextToken_196, s_Model_nextToken_197, s_Model_nextToken_198, s_Model_nextToken_201, s_Model_nextToken_204, g_73_3, g_73_4, g_73_13, mi_13, mi_4, en, if_neg (nI_ge (show i < n by omega) (show n < 2 ^ 31 by omega)), g76 (show i < 200 by omega), mi_ne (show 76 ≠ 73 by decide), isLet_in, Option.bind_some, Option.toList_some, List.cons_append, List.nil_append, nI_1, p_73_13, mi_p13, ih (i + 1) (show i + 1 + c = n by omega)]
    by_cases q : sortI (X 76 i) = 1
    · simp only [if_pos q, if_neg (show ¬ (1 : Int32) = 0 by decide)]
    · simp only [if_neg q, if_true]
theorem mdig_loop (en : X 73 4 = nI n) (hn : n ≤ 200) : ∀ (c i : Nat), i + c = n → ev F (lv + 2) jm_Model_nextToken 165 [.ref 73] [] (HH (MI X s i) J) = some (none, HH (MI X s (runN (KX X) 2 c i)) J) := by
  intro c
  induction c with
  | zero =>
    intro i hi
    obtain rfl : i = n := by omega
    rw [s_Model_nextToken_165]
    simp only [s_Model_nextToken_0, s_Model_nextToken_1, s_Model_nextToken_2, s_Model_nextToken_5, s_Model_nextToken_8, s_Model_nextToken_9, s_Model_nextToken_12, s_Model_nextToken_13, s_Model_nextToken_16, s_Model_nextToken_19, s_Model_nextToken_20, s_Model_nextToken_23, s_Model_nextToken_24, s_Model_nextToken_27, s_Model_nextToken_28, s_Model_nextToken_30, s_Model_nextToken_33, s_Model_nextToken_34, s_Model_nextToken_35, s_Model_nextToken_38, s_Model_nextToken_39, s_Model_nextToken_40, s_Model_nextToken_43, s_Model_nextToken_46, s_Model_nextToken_47, s_Model_nextToken_48, s_Model_nextToken_51, s_Model_nextToken_52, s_Model_nextToken_55, s_Model_nextToken_58, s_Model_nextToken_59, s_Model_nextToken_62, s_Model_nextToken_63, s_Model_nextToken_64, s_Model_nextToken_67, s_Model_nextToken_68, s_Model_nextToken_71, s_Model_nextToken_74, s_Model_nextToken_75, s_Model_nextToken_78, s_Model_nextToken_79, s_Model_nextToken_82, s_Model_nextToken_85, s_Model_nextToken_86, s_Model_nextToken_89, s_Model_nextToken_90, s_Model_nextToken_93, s_Model_nextToken_94, s_Model_nextToken_97, s_Model_nextToken_100, s_Model_nextToken_101, s_Model_nextToken_104, s_Model_nextToken_105, s_Model_nextToken_108, s_Model_nextToken_111, s_Model_nextToken_112, s_Model_nextToken_115, s_Model_nextToken_116, s_Model_nextToken_119, s_Model_nextToken_120, s_Model_nextToken_123, s_Model_nextToken_126, s_Model_nextToken_127, s_Model_nextToken_128, s_Model_nextToken_131, s_Model_nextToken_132, s_Model_nextToken_133, s_Model_nextToken_136, s_Model_nextToken_139, s_Model_nextToken_140, s_Model_nextToken_143, s_Model_nextToken_144, s_Model_nextToken_147, s_Model_nextToken_150, s_Model_nextToken_151, s_Model_nextToken_154, s_Model_nextToken_155, s_Model_nextToken_158, s_Model_nextToken_159, s_Model_nextToken_162, s_Model_nextToken_166, s_Model_nextToken_169, s_Model_nextToken_170, s_Model_nextToken_173, s_Model_nextToken_176, s_Model_nextToken_177, s_Model_nextToken_180, s_Model_nextToken_181, s_Model_nextToken_184, s_Model_nextToken_185, s_Model_nextToken_188, s_Model_nextToken_191, s_Model_nextToken_192, s_Model_nextToken_193, s_Model_nextToken_196, s_Model_nextToken_197, s_Model_nextToken_198, s_Model_nextToken_201, s_Model_nextToken_204, g_73_4, g_73_13, mi_13, mi_4, en, if_pos (nI_le (Nat.le_refl i) (show i < 2 ^ 31 by omega)), runN]
  | succ c ih =>
    intro i hi
    have ef : runN (KX X) 2 (c + 1) i = if sortI (X 76 i) = 2 then runN (KX X) 2 c (i + 1) else i := rfl
    rw [s_Model_nextToken_165, ef]
    simp only [s_Model_nextToken_0, s_Model_nextToken_1, s_Model_nextToken_2, s_Model_nextToken_5, s_Model_nextToken_8, s_Model_nextToken_9, s_Model_nextToken_12, s_Model_nextToken_13, s_Model_nextToken_16, s_Model_nextToken_19, s_Model_nextToken_20, s_Model_nextToken_23, s_Model_nextToken_24, s_Model_nextToken_27, s_Model_nextToken_28, s_Model_nextToken_30, s_Model_nextToken_33, s_Model_nextToken_34, s_Model_nextToken_35, s_Model_nextToken_38, s_Model_nextToken_39, s_Model_nextToken_40, s_Model_nextToken_43, s_Model_nextToken_46, s_Model_nextToken_47, s_Model_nextToken_48, s_Model_nextToken_51, s_Model_nextToken_52, s_Model_nextToken_55, s_Model_nextToken_58, s_Model_nextToken_59, s_Model_nextToken_62, s_Model_nextToken_63, s_Model_nextToken_64, s_Model_nextToken_67, s_Model_nextToken_68, s_Model_nextToken_71, s_Model_nextToken_74, s_Model_nextToken_75, s_Model_nextToken_78, s_Model_nextToken_79, s_Model_nextToken_82, s_Model_nextToken_85, s_Model_nextToken_86, s_Model_nextToken_89, s_Model_nextToken_90, s_Model_nextToken_93, s_Model_nextToken_94, s_Model_nextToken_97, s_Model_nextToken_100, s_Model_nextToken_101, s_Model_nextToken_104, s_Model_nextToken_105, s_Model_nextToken_108, s_Model_nextToken_111, s_Model_nextToken_112, s_Model_nextToken_115, s_Model_nextToken_116, s_Model_nextToken_119, s_Model_nextToken_120, s_Model_nextToken_123, s_Model_nextToken_126, s_Model_nextToken_127, s_Model_nextToken_128, s_Model_nextToken_131, s_Model_nextToken_132, s_Model_nextToken_133, s_Model_nextToken_136, s_Model_nextToken_139, s_Model_nextToken_140, s_Model_nextToken_143, s_Model_nextToken_144, s_Model_nextToken_147, s_Model_nextToken_150, s_Model_nextToken_151, s_Model_nextToken_154, s_Model_nextToken_155, s_Model_nextToken_158, s_Model_nextToken_159, s_Model_nextToken_162, s_Model_nextToken_166, s_Model_nextToken_169, s_Model_nextToken_170, s_Model_nextToken_173, s_Model_nextToken_176, s_Model_nextToken_177, s_Model_nextToken_180, s_Model_nextToken_181, s_Model_nextToken_184, s_Model_nextToken_185, s_Model_nextToken_188, s_Model_nextToken_191, s_Model_nextToken_192, s_Model_nextToken_193, s_Model_nextToken_196, s_Model_nextToken_197, s_Model_nextToken_198, s_Model_nextToken_201, s_Model_nextToken_204, g_73_3, g_73_4, g_73_13, mi_13, mi_4, en, if_neg (nI_ge (show i < n by omega) (show n < 2 ^ 31 by omega)), g76 (show i < 200 by omega), mi_ne (show 76 ≠ 73 by decide), isDig_in, Option.bind_some, Option.toList_some, List.cons_append, List.nil_append, nI_1, p_73_13, mi_p13, ih (i + 1) (show i + 1 + c = n by omega)]
    by_cases q : sortI (X 76 i) = 2
    · simp only [if_pos q, if_neg (show ¬ (1 : Int32) = 0 by decide)]
    · simp only [if_neg q, if_true]
theorem sort_c (x : Int32) : sortI x = 0 ∨ sortI x = 1 ∨ sortI x = 2 := by
  unfold sortI
  split
  · split
    · exact Or.inl rfl
    · split
      · exact Or.inl rfl
      · exact Or.inr (Or.inr rfl)
  · split
    · split
      · exact Or.inl rfl
      · split
        · exact Or.inl rfl
        · exact Or.inr (Or.inr rfl)
    · exact Or.inr (Or.inl rfl)
theorem mnxt_in (en : X 73 4 = nI n) (hn : n ≤ 200) (he : e ≤ n) : rn F (lv + 2) 111 [.ref 73] (HH (MI X s e) J) = some (none, HH (MI X (nxS (KX X) n e) (nxE (KX X) n e)) J) := by
  have hs := nx_s (I := KX X) he
  have l := mskp_loop (F := F) (lv := lv + 2) (J := J) (e := e) en hn (n - e) e (by omega)
  rw [e_Model_nextToken]
  simp only [s_Model_nextToken_0, s_Model_nextToken_1, s_Model_nextToken_2, s_Model_nextToken_5, g_73_13, mi_13, p_73_12, mi_p12]
  refine Eq.trans l ?_
  unfold nxE
  rw [show skpN (KX X) (n - e) e = nxS (KX X) n e from rfl]
  generalize nxS (KX X) n e = z at hs ⊢
  unfold endN
  simp only [s_Model_nextToken_46, s_Model_nextToken_47, s_Model_nextToken_48, s_Model_nextToken_51, s_Model_nextToken_52, s_Model_nextToken_55, g_73_4, g_73_12, mi_12, mi_4, en]
  by_cases q : z < n
  · simp only [if_neg (nI_ge q (show n < 2 ^ 31 by omega)), if_pos q, s_Model_nextToken_58, s_Model_nextToken_59, s_Model_nextToken_62, s_Model_nextToken_63, s_Model_nextToken_64, s_Model_nextToken_71, g_73_12, mi_12, nI_1, p_73_13, mi_p13, s_Model_nextToken_74, s_Model_nextToken_75, s_Model_nextToken_78, s_Model_nextToken_79, s_Model_nextToken_82, g_73_4, mi_4, en, s_Model_nextToken_85, s_Model_nextToken_86, s_Model_nextToken_89, s_Model_nextToken_90, s_Model_nextToken_93, s_Model_nextToken_94, g_73_3, g76 (show z < 200 by omega), mi_ne (show 76 ≠ 73 by decide), isLet_in, Option.bind_some, Option.toList_some, List.cons_append, List.nil_append, s_Model_nextToken_97, KX]
    rcases sort_c (X 76 z) with t | t | t
    · simp only [t, if_neg (show ¬ (0 : Int32) = 1 by decide), if_true, s_Model_nextToken_139, s_Model_nextToken_140, s_Model_nextToken_143, s_Model_nextToken_144, s_Model_nextToken_147, g_73_4, g_73_12, mi_4, mi_12, en, if_neg (nI_ge q (show n < 2 ^ 31 by omega)), s_Model_nextToken_150, s_Model_nextToken_151, s_Model_nextToken_154, s_Model_nextToken_155, s_Model_nextToken_158, s_Model_nextToken_159, g_73_3, g76 (show z < 200 by omega), mi_ne (show 76 ≠ 73 by decide), isDig_in, Option.bind_some, Option.toList_some, List.cons_append, List.nil_append, s_Model_nextToken_162, if_neg (show ¬ (0 : Int32) = 2 by decide), s_Model_nextToken_204]
    · simp only [t, if_true, if_neg (show ¬ (1 : Int32) = 0 by decide)]
      exact mlet_loop en hn (n - (z + 1)) (z + 1) (by omega)
    · simp only [t, if_neg (show ¬ (2 : Int32) = 1 by decide), if_neg (show ¬ (2 : Int32) = 0 by decide), if_true, s_Model_nextToken_139, s_Model_nextToken_140, s_Model_nextToken_143, s_Model_nextToken_144, s_Model_nextToken_147, g_73_4, g_73_12, mi_4, mi_12, en, if_neg (nI_ge q (show n < 2 ^ 31 by omega)), s_Model_nextToken_150, s_Model_nextToken_151, s_Model_nextToken_154, s_Model_nextToken_155, s_Model_nextToken_158, s_Model_nextToken_159, g_73_3, g76 (show z < 200 by omega), mi_ne (show 76 ≠ 73 by decide), isDig_in, Option.bind_some, Option.toList_some, List.cons_append, List.nil_append, s_Model_nextToken_162, if_neg (show ¬ (1 : Int32) = 0 by decide)]
      exact mdig_loop en hn (n - (z + 1)) (z + 1) (by omega)
  · simp only [if_pos (nI_le (show n ≤ z by omega) (show z < 2 ^ 31 by omega)), if_neg q, s_Model_nextToken_67, s_Model_nextToken_68, s_Model_nextToken_71, g_73_12, mi_12, p_73_13, mi_p13, s_Model_nextToken_74, s_Model_nextToken_75, s_Model_nextToken_78, s_Model_nextToken_79, s_Model_nextToken_82, g_73_4, mi_4, en, s_Model_nextToken_139, s_Model_nextToken_140, s_Model_nextToken_143, s_Model_nextToken_144, s_Model_nextToken_147, s_Model_nextToken_204]
end Mtx
