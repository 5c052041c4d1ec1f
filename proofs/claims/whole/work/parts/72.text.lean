/-! ===== Text: readWord, readArmy, readButtons, readMender ===== -/
/-- which word a token is, of c words from w on -/
def wdF (T : Nat → Int32) (s e : Nat) : Nat → Nat → Option Nat
  | 0, _ => none
  | c + 1, w => if tokW T s e w = 0 then wdF T s e c (w + 1) else some w
theorem wdF_lt {T : Nat → Int32} {s e v : Nat} : ∀ (c w : Nat), wdF T s e c w = some v → w ≤ v ∧ v < w + c := by
  intro c
  induction c with
  | zero => intro w h; unfold wdF at h; exact absurd h (by simp)
  | succ c ih =>
    intro w h
    unfold wdF at h
    split at h
    · have := ih (w + 1) h; omega
    · obtain rfl := Option.some.inj h; omega
theorem num_lt {T : Nat → Int32} {n s e lo hi v : Nat} (h : numN T n s e lo hi = some v) : lo ≤ v ∧ v ≤ hi := by
  unfold numN at h
  generalize (if e = s + 2 then 10 * dgN (T s) + dgN (T (s + 1)) else dgN (T s)) = w at h
  split at h
  · exact absurd h (by simp)
  · split at h
    · exact absurd h (by simp)
    · split at h
      · split at h
        · exact absurd h (by simp)
        · split at h
          · exact absurd h (by simp)
          · have := Option.some.inj h
            omega
      · exact absurd h (by simp)
theorem ti_loc {I : Nat → Nat → Int32} {s e : Nat} (G : (Nat → Nat → Int32) → Nat → Nat → Int32) (h1 : ∀ (I I' : Nat → Nat → Int32) (x : Nat), I x = I' x → G I x = G I' x) (h2 : ∀ I : Nat → Nat → Int32, G I 13 = I 13) : G (TI I s e) = TI (G I) s e := by
  funext x
  by_cases hx : x = 13
  · subst hx
    rw [h2]
    unfold TI
    rw [up1_eq, up1_eq, h2]
  · rw [ti_ne hx]
    exact h1 _ _ _ (ti_ne hx)
theorem upTo_loc {c k x : Nat} {g : Nat → Int32} {I I' : Nat → Nat → Int32} (h : I x = I' x) : upTo I c g k x = upTo I' c g k x := by
  funext y; unfold upTo; rw [h]
theorem up2_loc {c k x : Nat} {v : Int32} {I I' : Nat → Nat → Int32} (h : I x = I' x) : up2 I c k v x = up2 I' c k v x := by
  unfold up2; rw [h]
theorem beg_loc {a n x : Nat} {I I' : Nat → Nat → Int32} (h : I x = I' x) : begI I a n x = begI I' a n x := by
  unfold begI begK
  exact upTo_loc (upTo_loc (upTo_loc (up2_loc (up2_loc h))))
theorem beg_ne {a n x : Nat} {I : Nat → Nat → Int32} (h0 : x ≠ a) (h1 : x ≠ a + 1) (h2 : x ≠ a + 2) (h3 : x ≠ a + 3) : begI I a n x = I x := by
  unfold begI begK
  rw [upTo_ne h3, upTo_ne h2, upTo_ne h1, up2_ne h0, up2_ne h0]
theorem ti_beg {I : Nat → Nat → Int32} {s e n : Nat} : begI (TI I s e) 15 n = TI (begI I 15 n) s e :=
  ti_loc (fun I => begI I 15 n) (fun _ _ _ h => beg_loc h) (fun _ => beg_ne (by decide) (by decide) (by decide) (by decide))
theorem op_ne {v : Nat} (h : v < 2 ^ 31) : ¬ nI v = -1 := by
  intro q
  have := congrArg Int32.toInt q
  rw [nI_toInt h] at this
  have e1 : (-1 : Int32).toInt = -1 := rfl
  rw [e1] at this
  omega
section Txt
variable {F : jx_F} {nn : Nat} {xs : Nat → Int32} {fm : Value} {lv : Nat} {I : Nat → Nat → Int32} {J : Nat → Nat → Int64} {s e n : Nat}
theorem word_loop (hm : fm = .null ∨ ∃ k, fm = .retAddr k) (hs : s ≤ e) (he : e ≤ 200) : ∀ (c w : Nat), w + c = 8 → ev (jx_fo nn xs fm) (lv + 5) jm_Text_readWord 6 [.ref 13, .int (nI w)] [] (HH (TI I s e) J) = some (some (.int (opI (wdF (I 14) s e c w))), HH (TI I s e) J) := by
  have e7 : (7 : Int32) = nI 7 := rfl
  intro c
  induction c with
  | zero =>
    intro w hw
    obtain rfl : w = 8 := by omega
    rw [s_Text_readWord_6]
    simp only [s_Text_readWord_0, s_Text_readWord_1 rcv_13, s_Text_readWord_4, s_Text_readWord_5, s_Text_readWord_7, s_Text_readWord_9, s_Text_readWord_12, s_Text_readWord_13, s_Text_readWord_14, s_Text_readWord_17 rcv_13, s_Text_readWord_20, s_Text_readWord_23, s_Text_readWord_24, s_Text_readWord_25, s_Text_readWord_28, s_Text_readWord_31, s_Text_readWord_32, e7, if_pos (nI_lt (show 7 < 8 by decide) (show 8 < 2 ^ 31 by decide)), wdF, opI]
  | succ c ih =>
    intro w hw
    rw [s_Text_readWord_6]
    simp only [s_Text_readWord_0, s_Text_readWord_1 rcv_13, s_Text_readWord_4, s_Text_readWord_5, s_Text_readWord_7, s_Text_readWord_9, s_Text_readWord_12, s_Text_readWord_13, s_Text_readWord_14, s_Text_readWord_17 rcv_13, s_Text_readWord_20, s_Text_readWord_23, s_Text_readWord_24, s_Text_readWord_25, s_Text_readWord_28, s_Text_readWord_31, s_Text_readWord_32, e7, if_neg (nI_nlt (show w ≤ 7 by omega) (show 7 < 2 ^ 31 by decide)), wOf_in (show w < 8 by omega), tok_in hm (show w < 8 by omega) hs he, Option.bind_some, Option.toList_some, List.cons_append, List.nil_append, nI_1, ih (w + 1) (show w + 1 + c = 8 by omega), wdF]
    by_cases q : tokW (I 14) s e w = 0
    · simp only [if_pos q]
    · simp only [if_neg q, opI]
theorem word_in (hm : fm = .null ∨ ∃ k, fm = .retAddr k) (en : I 13 2 = nI n) (hn : n ≤ 200) (he : e ≤ n) : rn (jx_fo nn xs fm) (lv + 5) 56 [.ref 13] (HH (TI I s e) J) = some (some (.int (opI (wdF (I 14) (nxS I n e) (nxE I n e) 8 0))), HH (TI I (nxS I n e) (nxE I n e)) J) := by
  have h2 := nx_e (I := I) he
  rw [e_Text_readWord]
  simp only [s_Text_readWord_0, s_Text_readWord_1 rcv_13, nxt_in en hn he, Option.bind_some, Option.toList_none, List.nil_append, s_Text_readWord_4, s_Text_readWord_5]
  exact word_loop hm h2.1 (by omega) 8 0 (by omega)
theorem rArmy_in (en : I 13 2 = nI n) (hn : n ≤ 200) (he : e ≤ n) : rn F (lv + 3) 53 [.ref 13] (HH (TI I s e) J) = match numN (I 14) n (nxS I n e) (nxE I n e) 1 4 with
    | none => some (some (.int 0), HH (TI I (nxS I n e) (nxE I n e)) J)
    | some v => some (some (.int 1), HH (TI (begI I 15 v) (nxS I n e) (nxE I n e)) J) := by
  have e1 : (1 : Int32) = nI 1 := rfl
  have e4 : (4 : Int32) = nI 4 := rfl
  rw [e_Text_readArmy]
  simp only [s_Text_readArmy_0, s_Text_readArmy_1, s_Text_readArmy_2, s_Text_readArmy_3 rcv_13, e4, e1, num_in en hn he (show 1 < 100 by decide) (show 4 < 100 by decide), Option.bind_some, Option.toList_some, List.cons_append, List.nil_append]
  cases q : numN (I 14) n (nxS I n e) (nxE I n e) 1 4 with
  | none => simp only [opI, s_Text_readArmy_0, s_Text_readArmy_1, s_Text_readArmy_2, s_Text_readArmy_3 rcv_13, s_Text_readArmy_6, s_Text_readArmy_7, s_Text_readArmy_8, s_Text_readArmy_9, s_Text_readArmy_12, rz_Text_readArmy_13, ro_Text_readArmy_13, s_Text_readArmy_14, s_Text_readArmy_15, s_Text_readArmy_18, s_Text_readArmy_22, rz_Text_readArmy_23, ro_Text_readArmy_23, if_true]
  | some v =>
    have hv := num_lt q
    simp only [opI, s_Text_readArmy_0, s_Text_readArmy_1, s_Text_readArmy_2, s_Text_readArmy_3 rcv_13, s_Text_readArmy_6, s_Text_readArmy_7, s_Text_readArmy_8, s_Text_readArmy_9, s_Text_readArmy_12, rz_Text_readArmy_13, ro_Text_readArmy_13, s_Text_readArmy_14, s_Text_readArmy_15, s_Text_readArmy_18, s_Text_readArmy_22, rz_Text_readArmy_23, ro_Text_readArmy_23, if_neg (op_ne (show v < 2 ^ 31 by omega)), g_13_1, s_Text_readArmy_19 (ar_rcv ar_15), beg_in ar_15 hv.1 hv.2, Option.bind_some, Option.toList_none, List.nil_append, ti_beg]
    rfl
theorem rBut_in {m men : Nat} (hM : Mn I 15 men) (hm : m < 2 * men) (en : I 13 2 = nI n) (hn : n ≤ 200) (he : e ≤ n) : rn F (lv + 3) 54 [.ref 13, .int (nI m)] (HH (TI I s e) J) = match numN (I 14) n (nxS I n e) (nxE I n e) 0 6 with
    | none => some (some (.int 0), HH (TI I (nxS I n e) (nxE I n e)) J)
    | some v => some (some (.int 1), HH (TI (up2 I 17 m (nI v)) (nxS I n e) (nxE I n e)) J) := by
  have e0 : (0 : Int32) = nI 0 := rfl
  have e6 : (6 : Int32) = nI 6 := rfl
  have hM' : ∀ s e, Mn (TI I s e) 15 men := fun s e => ⟨by rw [ti_ne (by decide)]; exact hM.1, hM.2⟩
  have h8 := hM.2.2
  rw [e_Text_readButtons]
  simp only [s_Text_readButtons_0, s_Text_readButtons_1, s_Text_readButtons_2, s_Text_readButtons_4 rcv_13]
  rw [e0, e6]
  simp only [num_in en hn he (show 0 < 100 by decide) (show 6 < 100 by decide), Option.bind_some, Option.toList_some, List.cons_append, List.nil_append]
  rw [← e0]
  cases q : numN (I 14) n (nxS I n e) (nxE I n e) 0 6 with
  | none => simp only [opI, s_Text_readButtons_0, s_Text_readButtons_1, s_Text_readButtons_2, s_Text_readButtons_4 rcv_13, s_Text_readButtons_7, s_Text_readButtons_8, s_Text_readButtons_9, s_Text_readButtons_10, s_Text_readButtons_13, s_Text_readButtons_14, s_Text_readButtons_17, s_Text_readButtons_21, s_Text_readButtons_24, rz_Text_readButtons_25, ro_Text_readButtons_25, s_Text_readButtons_26, s_Text_readButtons_27, s_Text_readButtons_30, s_Text_readButtons_33, s_Text_readButtons_34, s_Text_readButtons_35, s_Text_readButtons_36, rz_Text_readButtons_37, ro_Text_readButtons_37, if_true]
  | some v =>
    have hv := num_lt q
    simp only [opI, s_Text_readButtons_0, s_Text_readButtons_1, s_Text_readButtons_2, s_Text_readButtons_4 rcv_13, s_Text_readButtons_7, s_Text_readButtons_8, s_Text_readButtons_9, s_Text_readButtons_10, s_Text_readButtons_13, s_Text_readButtons_14, s_Text_readButtons_17, s_Text_readButtons_21, s_Text_readButtons_24, rz_Text_readButtons_25, ro_Text_readButtons_25, s_Text_readButtons_26, s_Text_readButtons_27, s_Text_readButtons_30, s_Text_readButtons_33, s_Text_readButtons_34, s_Text_readButtons_35, s_Text_readButtons_36, rz_Text_readButtons_37, ro_Text_readButtons_37, if_neg (op_ne (show v < 2 ^ 31 by omega)), g_13_1, g_15_1, s_Text_readButtons_18 (ar_rcv ar_15), has_in ar_15 (hM' _ _) hm, Option.bind_some, Option.toList_some, List.cons_append, List.nil_append, if_neg (show ¬ (1 : Int32) = 0 by decide), pi_17, at_in (show m < 8 by omega) (show 8 < 2 ^ 31 by decide), nI_clamp (show m < 2 ^ 31 by omega), ti_up (show 17 ≠ 13 by decide)]
theorem rMen_in {m men : Nat} (hM : Mn I 15 men) (hm : m < 2 * men) (en : I 13 2 = nI n) (hn : n ≤ 200) (he : e ≤ n) : rn F (lv + 3) 55 [.ref 13, .int (nI m)] (HH (TI I s e) J) = match numN (I 14) n (nxS I n e) (nxE I n e) (oth men m) (oth men m + men - 1) with
    | none => some (some (.int 0), HH (TI I (nxS I n e) (nxE I n e)) J)
    | some v => some (some (.int 1), HH (TI (up2 I 18 m (nI v)) (nxS I n e) (nxE I n e)) J) := by
  have e1 : (1 : Int32) = nI 1 := rfl
  have hM' : ∀ s e, Mn (TI I s e) 15 men := fun s e => ⟨by rw [ti_ne (by decide)]; exact hM.1, hM.2⟩
  have h8 := hM.2
  have ho : oth men m ≤ 4 := by unfold oth; split <;> omega
  have ef : ∀ s e, rn F (lv + 2) 5 [.ref 15, .int (1 - if men ≤ m then 1 else 0)] (HH (TI I s e) J) = some (some (.int (nI (oth men m))), HH (TI I s e) J) := by
    intro s e
    rw [first_eq ar_15, (hM' s e).1]
    unfold oth
    by_cases q : men ≤ m
    · simp only [if_pos q, show (1 : Int32) - 1 = 0 from rfl, if_true]; rfl
    · simp only [if_neg q, show ¬ (1 : Int32) - 0 = 0 by decide, if_false]
  rw [e_Text_readMender]
  simp only [s_Text_readMender_0, s_Text_readMender_1, s_Text_readMender_4, s_Text_readMender_5, s_Text_readMender_6, s_Text_readMender_9, s_Text_readMender_13, s_Text_readMender_17, s_Text_readMender_18, s_Text_readMender_19, s_Text_readMender_20, s_Text_readMender_21, s_Text_readMender_22, s_Text_readMender_25, s_Text_readMender_28, s_Text_readMender_29, s_Text_readMender_30, s_Text_readMender_35, s_Text_readMender_36, s_Text_readMender_37, s_Text_readMender_40, s_Text_readMender_41, s_Text_readMender_44, s_Text_readMender_48, s_Text_readMender_51, rz_Text_readMender_52, ro_Text_readMender_52, s_Text_readMender_53, s_Text_readMender_54, s_Text_readMender_57, s_Text_readMender_60, s_Text_readMender_61, s_Text_readMender_62, s_Text_readMender_63, rz_Text_readMender_64, ro_Text_readMender_64, g_13_1, s_Text_readMender_10 (ar_rcv ar_15), s_Text_readMender_14 (ar_rcv ar_15), side_in ar_15 (hM' _ _) hm, ef, Option.bind_some, Option.toList_some, List.cons_append, List.nil_append, g_15_3, (hM' _ _).1, nI_add, pk_sub (show 1 ≤ oth men m + men by omega), s_Text_readMender_31 rcv_13]
  rw [show nI (oth men m + men) - 1 = nI (oth men m + men - 1) from pk_sub (show 1 ≤ oth men m + men by omega)]
  simp only [num_in en hn he (show oth men m < 100 by omega) (show oth men m + men - 1 < 100 by omega), Option.bind_some, Option.toList_some, List.cons_append, List.nil_append]
  cases q : numN (I 14) n (nxS I n e) (nxE I n e) (oth men m) (oth men m + men - 1) with
  | none => simp only [opI, s_Text_readMender_0, s_Text_readMender_1, s_Text_readMender_4, s_Text_readMender_5, s_Text_readMender_6, s_Text_readMender_9, s_Text_readMender_13, s_Text_readMender_17, s_Text_readMender_18, s_Text_readMender_19, s_Text_readMender_20, s_Text_readMender_21, s_Text_readMender_22, s_Text_readMender_25, s_Text_readMender_28, s_Text_readMender_29, s_Text_readMender_30, s_Text_readMender_34, s_Text_readMender_35, s_Text_readMender_36, s_Text_readMender_37, s_Text_readMender_40, s_Text_readMender_41, s_Text_readMender_44, s_Text_readMender_48, s_Text_readMender_51, rz_Text_readMender_52, ro_Text_readMender_52, s_Text_readMender_53, s_Text_readMender_54, s_Text_readMender_57, s_Text_readMender_60, s_Text_readMender_61, s_Text_readMender_62, s_Text_readMender_63, rz_Text_readMender_64, ro_Text_readMender_64, if_true]
  | some v =>
    have hv := num_lt q
    simp only [opI, s_Text_readMender_0, s_Text_readMender_1, s_Text_readMender_4, s_Text_readMender_5, s_Text_readMender_6, s_Text_readMender_9, s_Text_readMender_13, s_Text_readMender_17, s_Text_readMender_18, s_Text_readMender_19, s_Text_readMender_20, s_Text_readMender_21, s_Text_readMender_22, s_Text_readMender_25, s_Text_readMender_28, s_Text_readMender_29, s_Text_readMender_30, s_Text_readMender_34, s_Text_readMender_35, s_Text_readMender_36, s_Text_readMender_37, s_Text_readMender_40, s_Text_readMender_41, s_Text_readMender_44, s_Text_readMender_48, s_Text_readMender_51, rz_Text_readMender_52, ro_Text_readMender_52, s_Text_readMender_53, s_Text_readMender_54, s_Text_readMender_57, s_Text_readMender_60, s_Text_readMender_61, s_Text_readMender_62, s_Text_readMender_63, rz_Text_readMender_64, ro_Text_readMender_64, if_neg (op_ne (show v < 2 ^ 31 by omega)), g_13_1, g_15_2, s_Text_readMender_45 (ar_rcv ar_15), has_in ar_15 (hM' _ _) hm, Option.bind_some, Option.toList_some, List.cons_append, List.nil_append, if_neg (show ¬ (1 : Int32) = 0 by decide), pi_18, at_in (show m < 8 by omega) (show 8 < 2 ^ 31 by decide), nI_clamp (show m < 2 ^ 31 by omega), ti_up (show 18 ≠ 13 by decide)]
end Txt
