/-! ===== the words ===== -/
/-- letter i of word w -/
def wdL (w i : Nat) : Int32 := (jx_byt.getD w []).getD i 0
/-- the length of word w -/
def wdN (w : Nat) : Nat := (jx_byt.getD w []).length
theorem wd_le : ∀ w : Nat, w < 8 → wdN w ≤ 8 ∧ 0 < wdN w := by decide
theorem wd_and : ∀ w : Nat, w < 8 → ∀ i : Nat, i < 8 → ((wdL w i &&& 255).toUInt32 % 65536).toInt32 = wdL w i ∧ jx_ret1 5 (wdL w i) = true := by decide
/-- is a token word w: c letters from i on -/
def eqC (T : Nat → Int32) (s : Nat) (W : Nat → Int32) : Nat → Nat → Int32
  | 0, _ => 1
  | c + 1, i => if T (s + i) = W i then eqC T s W c (i + 1) else 0
def tokW (T : Nat → Int32) (s e w : Nat) : Int32 := if e - s = wdN w then eqC T s (wdL w) (wdN w) 0 else 0
section Wds
variable {nn : Nat} {xs : Nat → Int32} {fm : Value} {lv : Nat} {h : jx_H}
theorem fo_rcv {w : Nat} (hw : w < 8) : jx_rcv (jx_fo nn xs fm) h 20 [.retAddr (2 + w)] = true := by
  match w, hw with
  | 0, _ => rfl
  | 1, _ => rfl
  | 2, _ => rfl
  | 3, _ => rfl
  | 4, _ => rfl
  | 5, _ => rfl
  | 6, _ => rfl
  | 7, _ => rfl
theorem fo_rcv2 {w : Nat} {x : Int32} (hw : w < 8) : jx_rcv (jx_fo nn xs fm) h 20 [.retAddr (2 + w), .int x] = true := by
  match w, hw with
  | 0, _ => rfl
  | 1, _ => rfl
  | 2, _ => rfl
  | 3, _ => rfl
  | 4, _ => rfl
  | 5, _ => rfl
  | 6, _ => rfl
  | 7, _ => rfl
theorem fo_val {α : Type} {w : Nat} {k : Value → Option α} (hw : w < 8) : jx_gf (jx_fo nn xs fm).1 (2 + w) 20 0 k = k (.retAddr (10 + w)) := by
  match w, hw with
  | 0, _ => rfl
  | 1, _ => rfl
  | 2, _ => rfl
  | 3, _ => rfl
  | 4, _ => rfl
  | 5, _ => rfl
  | 6, _ => rfl
  | 7, _ => rfl
theorem fo_cod {α : Type} {w : Nat} {k : Value → Option α} (hw : w < 8) : jx_gf (jx_fo nn xs fm).1 (2 + w) 20 1 k = k (.int 0) := by
  match w, hw with
  | 0, _ => rfl
  | 1, _ => rfl
  | 2, _ => rfl
  | 3, _ => rfl
  | 4, _ => rfl
  | 5, _ => rfl
  | 6, _ => rfl
  | 7, _ => rfl
theorem fo_lenW {α : Type} {w : Nat} {k : Int32 → Option α} (hw : w < 8) : jx_lenF (jx_fo nn xs fm).1 (10 + w) k = k (nI (wdN w)) := by
  match w, hw with
  | 0, _ => rfl
  | 1, _ => rfl
  | 2, _ => rfl
  | 3, _ => rfl
  | 4, _ => rfl
  | 5, _ => rfl
  | 6, _ => rfl
  | 7, _ => rfl
theorem fo_gb {α : Type} {w : Nat} {i : Int32} {k : Int32 → Option α} (hw : w < 8) : jx_gi (jx_fo nn xs fm).1 4 (10 + w) i k = jx_at i (wdN w) (k (wdL w i.toNatClampNeg)) := by
  match w, hw with
  | 0, _ => rfl
  | 1, _ => rfl
  | 2, _ => rfl
  | 3, _ => rfl
  | 4, _ => rfl
  | 5, _ => rfl
  | 6, _ => rfl
  | 7, _ => rfl
theorem wOf_in {w : Nat} (hw : w < 8) : rn (jx_fo nn xs fm) lv 57 [.int (nI w)] h = some (some (.retAddr (2 + w)), h) := by
  match w, hw with
  | 0, _ => simp only [e_Text_wordOf, s_Text_wordOf_0, s_Text_wordOf_1, s_Text_wordOf_44, s_Text_wordOf_46, s_Text_wordOf_47, s_Text_wordOf_49, s_Text_wordOf_50, s_Text_wordOf_52, s_Text_wordOf_53, s_Text_wordOf_55, s_Text_wordOf_56, s_Text_wordOf_58, s_Text_wordOf_59, s_Text_wordOf_61, s_Text_wordOf_62, s_Text_wordOf_64, s_Text_wordOf_65, s_Text_wordOf_67, show nI 0 = (0 : Int32) from rfl, if_true]
  | 1, _ => simp only [e_Text_wordOf, s_Text_wordOf_0, s_Text_wordOf_1, s_Text_wordOf_44, s_Text_wordOf_46, s_Text_wordOf_47, s_Text_wordOf_49, s_Text_wordOf_50, s_Text_wordOf_52, s_Text_wordOf_53, s_Text_wordOf_55, s_Text_wordOf_56, s_Text_wordOf_58, s_Text_wordOf_59, s_Text_wordOf_61, s_Text_wordOf_62, s_Text_wordOf_64, s_Text_wordOf_65, s_Text_wordOf_67, show ¬ nI 1 = (0 : Int32) by decide, show nI 1 = (1 : Int32) from rfl, if_true, if_false, show ¬ (1 : Int32) = 0 by decide]
  | 2, _ => simp only [e_Text_wordOf, s_Text_wordOf_0, s_Text_wordOf_1, s_Text_wordOf_44, s_Text_wordOf_46, s_Text_wordOf_47, s_Text_wordOf_49, s_Text_wordOf_50, s_Text_wordOf_52, s_Text_wordOf_53, s_Text_wordOf_55, s_Text_wordOf_56, s_Text_wordOf_58, s_Text_wordOf_59, s_Text_wordOf_61, s_Text_wordOf_62, s_Text_wordOf_64, s_Text_wordOf_65, s_Text_wordOf_67, show nI 2 = (2 : Int32) from rfl, if_true, if_false, show ¬ (2 : Int32) = 0 by decide, show ¬ (2 : Int32) = 1 by decide]
  | 3, _ => simp only [e_Text_wordOf, s_Text_wordOf_0, s_Text_wordOf_1, s_Text_wordOf_44, s_Text_wordOf_46, s_Text_wordOf_47, s_Text_wordOf_49, s_Text_wordOf_50, s_Text_wordOf_52, s_Text_wordOf_53, s_Text_wordOf_55, s_Text_wordOf_56, s_Text_wordOf_58, s_Text_wordOf_59, s_Text_wordOf_61, s_Text_wordOf_62, s_Text_wordOf_64, s_Text_wordOf_65, s_Text_wordOf_67, show nI 3 = (3 : Int32) from rfl, if_true, if_false, show ¬ (3 : Int32) = 0 by decide, show ¬ (3 : Int32) = 1 by decide, show ¬ (3 : Int32) = 2 by decide]
  | 4, _ => simp only [e_Text_wordOf, s_Text_wordOf_0, s_Text_wordOf_1, s_Text_wordOf_44, s_Text_wordOf_46, s_Text_wordOf_47, s_Text_wordOf_49, s_Text_wordOf_50, s_Text_wordOf_52, s_Text_wordOf_53, s_Text_wordOf_55, s_Text_wordOf_56, s_Text_wordOf_58, s_Text_wordOf_59, s_Text_wordOf_61, s_Text_wordOf_62, s_Text_wordOf_64, s_Text_wordOf_65, s_Text_wordOf_67, show nI 4 = (4 : Int32) from rfl, if_true, if_false, show ¬ (4 : Int32) = 0 by decide, show ¬ (4 : Int32) = 1 by decide, show ¬ (4 : Int32) = 2 by decide, show ¬ (4 : Int32) = 3 by decide]
  | 5, _ => simp only [e_Text_wordOf, s_Text_wordOf_0, s_Text_wordOf_1, s_Text_wordOf_44, s_Text_wordOf_46, s_Text_wordOf_47, s_Text_wordOf_49, s_Text_wordOf_50, s_Text_wordOf_52, s_Text_wordOf_53, s_Text_wordOf_55, s_Text_wordOf_56, s_Text_wordOf_58, s_Text_wordOf_59, s_Text_wordOf_61, s_Text_wordOf_62, s_Text_wordOf_64, s_Text_wordOf_65, s_Text_wordOf_67, show nI 5 = (5 : Int32) from rfl, if_true, if_false, show ¬ (5 : Int32) = 0 by decide, show ¬ (5 : Int32) = 1 by decide, show ¬ (5 : Int32) = 2 by decide, show ¬ (5 : Int32) = 3 by decide, show ¬ (5 : Int32) = 4 by decide]
  | 6, _ => simp only [e_Text_wordOf, s_Text_wordOf_0, s_Text_wordOf_1, s_Text_wordOf_44, s_Text_wordOf_46, s_Text_wordOf_47, s_Text_wordOf_49, s_Text_wordOf_50, s_Text_wordOf_52, s_Text_wordOf_53, s_Text_wordOf_55, s_Text_wordOf_56, s_Text_wordOf_58, s_Text_wordOf_59, s_Text_wordOf_61, s_Text_wordOf_62, s_Text_wordOf_64, s_Text_wordOf_65, s_Text_wordOf_67, show nI 6 = (6 : Int32) from rfl, if_true, if_false, show ¬ (6 : Int32) = 0 by decide, show ¬ (6 : Int32) = 1 by decide, show ¬ (6 : Int32) = 2 by decide, show ¬ (6 : Int32) = 3 by decide, show ¬ (6 : Int32) = 4 by decide, show ¬ (6 : Int32) = 5 by decide]
  | 7, _ => simp only [e_Text_wordOf, s_Text_wordOf_0, s_Text_wordOf_1, s_Text_wordOf_44, s_Text_wordOf_46, s_Text_wordOf_47, s_Text_wordOf_49, s_Text_wordOf_50, s_Text_wordOf_52, s_Text_wordOf_53, s_Text_wordOf_55, s_Text_wordOf_56, s_Text_wordOf_58, s_Text_wordOf_59, s_Text_wordOf_61, s_Text_wordOf_62, s_Text_wordOf_64, s_Text_wordOf_65, s_Text_wordOf_67, show nI 7 = (7 : Int32) from rfl, if_false, show ¬ (7 : Int32) = 0 by decide, show ¬ (7 : Int32) = 1 by decide, show ¬ (7 : Int32) = 2 by decide, show ¬ (7 : Int32) = 3 by decide, show ¬ (7 : Int32) = 4 by decide, show ¬ (7 : Int32) = 5 by decide, show ¬ (7 : Int32) = 6 by decide]
theorem cod_in {w : Nat} (hw : w < 8) : rn (jx_fo nn xs fm) lv 177 [.retAddr (2 + w)] h = some (some (.int 0), h) := by
  simp only [e_String_coder, s_String_coder_0, s_String_coder_3, s_String_coder_6, s_String_coder_7, s_String_coder_10, s_String_coder_13, if_neg (show ¬ (1 : Int32) = 0 by decide), fo_cod hw, s_String_coder_14 (show jx_ret1 6 0 = true from rfl)]
theorem len_in {w : Nat} (hw : w < 8) : rn (jx_fo nn xs fm) (lv + 1) 175 [.retAddr (2 + w)] h = some (some (.int (nI (wdN w))), h) := by
  simp only [e_String_length, s_String_length_0, s_String_length_1, s_String_length_4, s_String_length_5, s_String_length_6 (fo_rcv hw), s_String_length_9, s_String_length_10, fo_val hw, fo_lenW hw, cod_in hw, Option.bind_some, Option.toList_some, List.cons_append, List.nil_append]
  congr 3
  match w, hw with
  | 0, _ => rfl
  | 1, _ => rfl
  | 2, _ => rfl
  | 3, _ => rfl
  | 4, _ => rfl
  | 5, _ => rfl
  | 6, _ => rfl
  | 7, _ => rfl
theorem lat_in {w : Nat} (hw : w < 8) : rn (jx_fo nn xs fm) lv 178 [.retAddr (2 + w)] h = some (some (.int 1), h) := by
  simp only [e_String_isLatin1, s_String_isLatin1_0, s_String_isLatin1_3, s_String_isLatin1_6, s_String_isLatin1_7, s_String_isLatin1_10, s_String_isLatin1_13, s_String_isLatin1_14, s_String_isLatin1_17, if_neg (show ¬ (1 : Int32) = 0 by decide), fo_cod hw, if_true, s_String_isLatin1_18 (show jx_ret1 4 1 = true from rfl)]
theorem pre_in {i n : Nat} (hm : fm = .null ∨ ∃ k, fm = .retAddr k) (hi : i < n) (hn : n < 2 ^ 31) : rn (jx_fo nn xs fm) lv 181 [.int (nI i), .int (nI n), fm] h = some (some (.int (nI i)), h) := by
  rw [e_Preconditions_checkIndex hm]
  simp only [s_Preconditions_checkIndex_0, s_Preconditions_checkIndex_1, s_Preconditions_checkIndex_4, s_Preconditions_checkIndex_5, s_Preconditions_checkIndex_6, s_Preconditions_checkIndex_10, s_Preconditions_checkIndex_11, s_Preconditions_checkIndex_16, s_Preconditions_checkIndex_17, if_neg (nI_pos (show i < 2 ^ 31 by omega)), if_pos (nI_lt hi hn)]
theorem chk_in {i n : Nat} (hm : fm = .null ∨ ∃ k, fm = .retAddr k) (hi : i < n) (hn : n < 2 ^ 31) : rn (jx_fo nn xs fm) (lv + 1) 179 [.int (nI i), .int (nI n)] h = some (none, h) := by
  rw [e_String_checkIndex]
  simp only [s_String_checkIndex_0, s_String_checkIndex_1, s_String_checkIndex_2, s_String_checkIndex_8, s_String_checkIndex_9, s_String_checkIndex_5 hm, pre_in hm hi hn, Option.bind_some, Option.toList_some, List.cons_append, List.nil_append]
theorem lch_in {w i : Nat} (hm : fm = .null ∨ ∃ k, fm = .retAddr k) (hw : w < 8) (hi : i < wdN w) : rn (jx_fo nn xs fm) (lv + 2) 180 [.retAddr (10 + w), .int (nI i)] h = some (some (.int (wdL w i)), h) := by
  have h8 := wd_le w hw
  have hb := wd_and w hw i (by omega)
  rw [e_StringLatin1_charAt]
  simp only [s_StringLatin1_charAt_0, s_StringLatin1_charAt_1, s_StringLatin1_charAt_2, s_StringLatin1_charAt_3, s_StringLatin1_charAt_6, s_StringLatin1_charAt_7, s_StringLatin1_charAt_8, s_StringLatin1_charAt_9, s_StringLatin1_charAt_12, s_StringLatin1_charAt_13, fo_lenW hw, chk_in hm hi (show wdN w < 2 ^ 31 by omega), Option.bind_some, Option.toList_none, List.nil_append, fo_gb hw, at_in hi (show wdN w < 2 ^ 31 by omega), nI_clamp (show i < 2 ^ 31 by omega), hb.1, s_StringLatin1_charAt_14 hb.2]
theorem chr_in {w i : Nat} (hm : fm = .null ∨ ∃ k, fm = .retAddr k) (hw : w < 8) (hi : i < wdN w) : rn (jx_fo nn xs fm) (lv + 3) 176 [.retAddr (2 + w), .int (nI i)] h = some (some (.int (wdL w i)), h) := by
  have h8 := wd_le w hw
  have hb := wd_and w hw i (by omega)
  rw [e_String_charAt]
  simp only [s_String_charAt_0, s_String_charAt_1 (fo_rcv hw), s_String_charAt_4, s_String_charAt_7, s_String_charAt_8, s_String_charAt_11, s_String_charAt_12, s_String_charAt_16, s_String_charAt_17, s_String_charAt_20, lat_in hw, Option.bind_some, Option.toList_some, List.cons_append, List.nil_append, if_neg (show ¬ (1 : Int32) = 0 by decide), fo_val hw, lch_in hm hw hi, s_String_charAt_15 hb.2]
variable {I : Nat → Nat → Int32} {J : Nat → Nat → Int64} {s e n : Nat}
theorem tok_loop {w : Nat} (hm : fm = .null ∨ ∃ k, fm = .retAddr k) (hw : w < 8) (hs : s + wdN w ≤ 200) : ∀ (c i : Nat), i + c = wdN w → ev (jx_fo nn xs fm) (lv + 4) jm_Text_isToken 20 [.ref 13, .retAddr (2 + w), .int (nI i)] [] (HH (TI I s e) J) = some (some (.int (eqC (I 14) s (wdL w) c i)), HH (TI I s e) J) := by
  have h8 := wd_le w hw
  intro c
  induction c with
  | zero =>
    intro i hi
    obtain rfl : i = wdN w := by omega
    rw [s_Text_isToken_20]
    simp only [s_Text_isToken_0, s_Text_isToken_1, s_Text_isToken_4, s_Text_isToken_5, s_Text_isToken_8, s_Text_isToken_9, s_Text_isToken_10 (fo_rcv hw), s_Text_isToken_10 (fo_rcv2 hw), s_Text_isToken_13, s_Text_isToken_16, rz_Text_isToken_17, ro_Text_isToken_17, s_Text_isToken_18, s_Text_isToken_19, s_Text_isToken_21, s_Text_isToken_22 (fo_rcv hw), s_Text_isToken_22 (fo_rcv2 hw), s_Text_isToken_25, s_Text_isToken_28, s_Text_isToken_29, s_Text_isToken_32, s_Text_isToken_33, s_Text_isToken_36, s_Text_isToken_37, s_Text_isToken_38, s_Text_isToken_39, s_Text_isToken_40, s_Text_isToken_41 (fo_rcv hw), s_Text_isToken_41 (fo_rcv2 hw), s_Text_isToken_44, s_Text_isToken_47, rz_Text_isToken_48, ro_Text_isToken_48, s_Text_isToken_49, s_Text_isToken_52, s_Text_isToken_55, rz_Text_isToken_56, ro_Text_isToken_56, len_in hw, Option.bind_some, Option.toList_some, List.cons_append, List.nil_append, if_pos (nI_le (Nat.le_refl (wdN w)) (show wdN w < 2 ^ 31 by omega)), eqC]
  | succ c ih =>
    intro i hi
    rw [s_Text_isToken_20]
    simp only [s_Text_isToken_0, s_Text_isToken_1, s_Text_isToken_4, s_Text_isToken_5, s_Text_isToken_8, s_Text_isToken_9, s_Text_isToken_10 (fo_rcv hw), s_Text_isToken_10 (fo_rcv2 hw), s_Text_isToken_13, s_Text_isToken_16, rz_Text_isToken_17, ro_Text_isToken_17, s_Text_isToken_18, s_Text_isToken_19, s_Text_isToken_21, s_Text_isToken_22 (fo_rcv hw), s_Text_isToken_22 (fo_rcv2 hw), s_Text_isToken_25, s_Text_isToken_28, s_Text_isToken_29, s_Text_isToken_32, s_Text_isToken_33, s_Text_isToken_36, s_Text_isToken_37, s_Text_isToken_38, s_Text_isToken_39, s_Text_isToken_40, s_Text_isToken_41 (fo_rcv hw), s_Text_isToken_41 (fo_rcv2 hw), s_Text_isToken_44, s_Text_isToken_47, rz_Text_isToken_48, ro_Text_isToken_48, s_Text_isToken_49, s_Text_isToken_52, s_Text_isToken_55, rz_Text_isToken_56, ro_Text_isToken_56, len_in hw, Option.bind_some, Option.toList_some, List.cons_append, List.nil_append, if_neg (nI_ge (show i < wdN w by omega) (show wdN w < 2 ^ 31 by omega)), g_13_0, g_13_4, ti_4, nI_add, gi_14, at_in (show s + i < 200 by omega) (show 200 < 2 ^ 31 by decide), nI_clamp (show s + i < 2 ^ 31 by omega), ti_ne (show 14 ≠ 13 by decide), chr_in hm hw (show i < wdN w by omega), nI_1, ih (i + 1) (show i + 1 + c = wdN w by omega), eqC]
    split <;> rfl
theorem tok_in {w : Nat} (hm : fm = .null ∨ ∃ k, fm = .retAddr k) (hw : w < 8) (hs : s ≤ e) (he : e ≤ 200) : rn (jx_fo nn xs fm) (lv + 4) 58 [.ref 13, .retAddr (2 + w)] (HH (TI I s e) J) = some (some (.int (tokW (I 14) s e w)), HH (TI I s e) J) := by
  have h8 := wd_le w hw
  rw [e_Text_isToken]
  simp only [s_Text_isToken_0, s_Text_isToken_1, s_Text_isToken_4, s_Text_isToken_5, s_Text_isToken_8, s_Text_isToken_9, s_Text_isToken_10 (fo_rcv hw), s_Text_isToken_10 (fo_rcv2 hw), s_Text_isToken_13, s_Text_isToken_16, rz_Text_isToken_17, ro_Text_isToken_17, s_Text_isToken_18, s_Text_isToken_19, s_Text_isToken_21, s_Text_isToken_22 (fo_rcv hw), s_Text_isToken_22 (fo_rcv2 hw), s_Text_isToken_25, s_Text_isToken_28, s_Text_isToken_29, s_Text_isToken_32, s_Text_isToken_33, s_Text_isToken_36, s_Text_isToken_37, s_Text_isToken_38, s_Text_isToken_39, s_Text_isToken_40, s_Text_isToken_41 (fo_rcv hw), s_Text_isToken_41 (fo_rcv2 hw), s_Text_isToken_44, s_Text_isToken_47, rz_Text_isToken_48, ro_Text_isToken_48, s_Text_isToken_49, s_Text_isToken_52, s_Text_isToken_55, rz_Text_isToken_56, ro_Text_isToken_56, g_13_4, g_13_5, ti_4, ti_5, pk_sub hs, len_in hw, Option.bind_some, Option.toList_some, List.cons_append, List.nil_append, nI_eq (show e - s < 2 ^ 31 by omega) (show wdN w < 2 ^ 31 by omega), tokW]
  by_cases q : e - s = wdN w
  · simp only [if_pos q]
    exact tok_loop hm hw (by omega) (wdN w) 0 (by omega)
  · simp only [if_neg q]
end Wds
