/-! ===== Kinds.isOne ===== -/
/-- is the rank r one of those from t up, in c steps -/
def isOr (r : Int32) : Nat → Int32 → Int32
  | 0, _ => 0
  | c + 1, t => if t < 0 then 0 else if 6 ≤ t then 0 else if t = r then 1 else isOr r c (jx_above t.toNatClampNeg)
section Kds
variable {nn : Nat} {xs : Nat → Int32} {fm : Value} {lv : Nat} {h : jx_H}
theorem fo_len {α : Type} {k : Int32 → Option α} : jx_lenF (jx_fo nn xs fm).1 1 k = k (nI 6) := rfl
theorem fo_gi {α : Type} {i : Int32} {k : Int32 → Option α} : jx_gi (jx_fo nn xs fm).1 0 1 i k = jx_at i 6 (k (jx_above i.toNatClampNeg)) := rfl
theorem isOne_loop {x r : Int32} : ∀ (c i : Nat) (t : Int32), i + c = 6 → ev (jx_fo nn xs fm) lv jm_Kinds_isOne 6 [.int x, .int r, .int t, .int (nI i)] [] h = some (some (.int (isOr r c t)), h) := by
  have e6 : (6 : Int32) = nI 6 := rfl
  intro c
  induction c with
  | zero =>
    intro i t hi
    obtain rfl : i = 6 := by omega
    rw [s_Kinds_isOne_6]
    simp only [s_Kinds_isOne_0, s_Kinds_isOne_1, s_Kinds_isOne_2, s_Kinds_isOne_3, s_Kinds_isOne_4, s_Kinds_isOne_5, s_Kinds_isOne_7, s_Kinds_isOne_10, s_Kinds_isOne_11, s_Kinds_isOne_14, s_Kinds_isOne_15, s_Kinds_isOne_18, s_Kinds_isOne_19, s_Kinds_isOne_22, s_Kinds_isOne_23, s_Kinds_isOne_26, s_Kinds_isOne_27, s_Kinds_isOne_28, s_Kinds_isOne_31, rz_Kinds_isOne_32, ro_Kinds_isOne_32, s_Kinds_isOne_33, s_Kinds_isOne_36, s_Kinds_isOne_37, s_Kinds_isOne_38, s_Kinds_isOne_39, s_Kinds_isOne_42, s_Kinds_isOne_45, rz_Kinds_isOne_46, ro_Kinds_isOne_46, fo_len, if_pos (nI_le (Nat.le_refl 6) (show 6 < 2 ^ 31 by decide)), isOr]
  | succ c ih =>
    intro i t hi
    rw [s_Kinds_isOne_6]
    simp only [s_Kinds_isOne_0, s_Kinds_isOne_1, s_Kinds_isOne_2, s_Kinds_isOne_3, s_Kinds_isOne_4, s_Kinds_isOne_5, s_Kinds_isOne_7, s_Kinds_isOne_10, s_Kinds_isOne_11, s_Kinds_isOne_14, s_Kinds_isOne_15, s_Kinds_isOne_18, s_Kinds_isOne_19, s_Kinds_isOne_22, s_Kinds_isOne_23, s_Kinds_isOne_26, s_Kinds_isOne_27, s_Kinds_isOne_28, s_Kinds_isOne_31, rz_Kinds_isOne_32, ro_Kinds_isOne_32, s_Kinds_isOne_33, s_Kinds_isOne_36, s_Kinds_isOne_37, s_Kinds_isOne_38, s_Kinds_isOne_39, s_Kinds_isOne_42, s_Kinds_isOne_45, rz_Kinds_isOne_46, ro_Kinds_isOne_46, fo_len, if_neg (nI_ge (show i < 6 by omega) (show 6 < 2 ^ 31 by decide)), isOr, e6]
    by_cases h1 : t < 0
    · simp only [if_pos h1]
    · by_cases h2 : nI 6 ≤ t
      · simp only [if_neg h1, if_pos h2]
      · obtain ⟨j, hj, rfl⟩ : ∃ j : Nat, j < 6 ∧ t = nI j := by
          rcases pk_ix t (n := 6) (by decide) with q | q | q
          · exact absurd q h1
          · exact absurd q h2
          · exact q
        simp only [if_neg h1, if_neg h2]
        by_cases h3 : nI j = r
        · simp only [if_pos h3]
        · simp only [if_neg h3, fo_gi, at_in hj (show 6 < 2 ^ 31 by decide), s_Kinds_isOne_0, s_Kinds_isOne_1, s_Kinds_isOne_2, s_Kinds_isOne_3, s_Kinds_isOne_4, s_Kinds_isOne_5, s_Kinds_isOne_7, s_Kinds_isOne_10, s_Kinds_isOne_11, s_Kinds_isOne_14, s_Kinds_isOne_15, s_Kinds_isOne_18, s_Kinds_isOne_19, s_Kinds_isOne_22, s_Kinds_isOne_23, s_Kinds_isOne_26, s_Kinds_isOne_27, s_Kinds_isOne_28, s_Kinds_isOne_31, rz_Kinds_isOne_32, ro_Kinds_isOne_32, s_Kinds_isOne_33, s_Kinds_isOne_36, s_Kinds_isOne_37, s_Kinds_isOne_38, s_Kinds_isOne_39, s_Kinds_isOne_42, s_Kinds_isOne_45, rz_Kinds_isOne_46, ro_Kinds_isOne_46, nI_1, ih (i + 1) _ (show i + 1 + c = 6 by omega)]
theorem isOne_in {x r : Int32} : rn (jx_fo nn xs fm) lv 29 [.int x, .int r] h = some (some (.int (isOr r 6 (x + 1))), h) := by
  simp only [e_Kinds_isOne, s_Kinds_isOne_0, s_Kinds_isOne_1, s_Kinds_isOne_2, s_Kinds_isOne_3, s_Kinds_isOne_4, s_Kinds_isOne_5, s_Kinds_isOne_7, s_Kinds_isOne_10, s_Kinds_isOne_11, s_Kinds_isOne_14, s_Kinds_isOne_15, s_Kinds_isOne_18, s_Kinds_isOne_19, s_Kinds_isOne_22, s_Kinds_isOne_23, s_Kinds_isOne_26, s_Kinds_isOne_27, s_Kinds_isOne_28, s_Kinds_isOne_31, rz_Kinds_isOne_32, ro_Kinds_isOne_32, s_Kinds_isOne_33, s_Kinds_isOne_36, s_Kinds_isOne_37, s_Kinds_isOne_38, s_Kinds_isOne_39, s_Kinds_isOne_42, s_Kinds_isOne_45, rz_Kinds_isOne_46, ro_Kinds_isOne_46]
  exact isOne_loop 6 0 _ (by omega)
end Kds
