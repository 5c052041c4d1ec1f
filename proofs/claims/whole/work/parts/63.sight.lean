/-! ===== Sightings: kinds, days ===== -/
section Sgt
variable {F : jx_F} {lv : Nat} {I : Nat → Nat → Int32} {J : Nat → Nat → Int64}
def posF (I : Nat → Nat → Int32) (n : Nat) (k : Nat) (b : Int32) : Int32 := if fitB I (nI k) 0 n = 0 then b else b ||| (1 <<< (nI k &&& 31))
theorem pos_loop {n : Nat} (e : I 63 2 = nI n) (hn : n ≤ 6) : ∀ (c k : Nat) (b : Int32), k + c = 5 → ev F (lv + 3) jm_Sightings_possibleKinds 4 [.ref 63, .int b, .int (nI k)] [] (HH I J) = some (some (.int (fold2 (posF I n) k c b)), HH I J) := by
  have e5 : (5 : Int32) = nI 5 := rfl
  intro c
  induction c with
  | zero =>
    intro k b hk
    obtain rfl : k = 5 := by omega
    rw [s_Sightings_possibleKinds_4]
    simp only [s_Sightings_possibleKinds_0, s_Sightings_possibleKinds_1, s_Sightings_possibleKinds_2, s_Sightings_possibleKinds_3, s_Sightings_possibleKinds_5, s_Sightings_possibleKinds_6, s_Sightings_possibleKinds_9, s_Sightings_possibleKinds_10, s_Sightings_possibleKinds_11 rcv_63, s_Sightings_possibleKinds_14, s_Sightings_possibleKinds_17, s_Sightings_possibleKinds_18, s_Sightings_possibleKinds_19, s_Sightings_possibleKinds_20, s_Sightings_possibleKinds_21, s_Sightings_possibleKinds_22, s_Sightings_possibleKinds_23, s_Sightings_possibleKinds_26, s_Sightings_possibleKinds_29, s_Sightings_possibleKinds_30, e5, if_pos (nI_le (Nat.le_refl 5) (show 5 < 2 ^ 31 by decide)), fold2]
  | succ c ih =>
    intro k b hk
    rw [s_Sightings_possibleKinds_4]
    simp only [s_Sightings_possibleKinds_0, s_Sightings_possibleKinds_1, s_Sightings_possibleKinds_2, s_Sightings_possibleKinds_3, s_Sightings_possibleKinds_5, s_Sightings_possibleKinds_6, s_Sightings_possibleKinds_9, s_Sightings_possibleKinds_10, s_Sightings_possibleKinds_11 rcv_63, s_Sightings_possibleKinds_14, s_Sightings_possibleKinds_17, s_Sightings_possibleKinds_18, s_Sightings_possibleKinds_19, s_Sightings_possibleKinds_20, s_Sightings_possibleKinds_21, s_Sightings_possibleKinds_22, s_Sightings_possibleKinds_23, s_Sightings_possibleKinds_26, s_Sightings_possibleKinds_29, s_Sightings_possibleKinds_30, e5, if_neg (nI_ge (show k < 5 by omega) (show 5 < 2 ^ 31 by decide)), fit_in e hn, Option.bind_some, Option.toList_some, List.cons_append, List.nil_append, fold2, posF, nI_1, ih (k + 1) _ (show k + 1 + c = 5 by omega)]
    split <;> rfl
theorem pos_in {n : Nat} (e : I 63 2 = nI n) (hn : n ≤ 6) : rn F (lv + 3) 45 [.ref 63] (HH I J) = some (some (.int (fold2 (posF I n) 0 5 0)), HH I J) := by
  simp only [e_Sightings_possibleKinds, s_Sightings_possibleKinds_0, s_Sightings_possibleKinds_1, s_Sightings_possibleKinds_2, s_Sightings_possibleKinds_3, s_Sightings_possibleKinds_5, s_Sightings_possibleKinds_6, s_Sightings_possibleKinds_9, s_Sightings_possibleKinds_10, s_Sightings_possibleKinds_14, s_Sightings_possibleKinds_17, s_Sightings_possibleKinds_18, s_Sightings_possibleKinds_19, s_Sightings_possibleKinds_20, s_Sightings_possibleKinds_21, s_Sightings_possibleKinds_22, s_Sightings_possibleKinds_23, s_Sightings_possibleKinds_26, s_Sightings_possibleKinds_29, s_Sightings_possibleKinds_30]
  exact pos_loop e hn 5 0 0 (by omega)
def aliF (x P d : Int32) (k : Nat) (b : Int32) : Int32 := if (P >>> (nI k &&& 31)) &&& 1 = 0 then b else if sigK (nI k) d = sigK x d then b + 1 else b
theorem ali_loop {h : jx_H} {x P d : Int32} : ∀ (c k : Nat) (b : Int32), k + c = 5 → ev F (lv + 2) jm_Sightings_alikeTo 5 [.int x, .int P, .int d, .int b, .int (nI k)] [] h = some (some (.int (fold2 (aliF x P d) k c b)), h) := by
  have e5 : (5 : Int32) = nI 5 := rfl
  intro c
  induction c with
  | zero =>
    intro k b hk
    obtain rfl : k = 5 := by omega
    rw [s_Sightings_alikeTo_5]
    simp only [s_Sightings_alikeTo_0, s_Sightings_alikeTo_1, s_Sightings_alikeTo_2, s_Sightings_alikeTo_3, s_Sightings_alikeTo_7, s_Sightings_alikeTo_8, s_Sightings_alikeTo_11, s_Sightings_alikeTo_12, s_Sightings_alikeTo_14, s_Sightings_alikeTo_15, s_Sightings_alikeTo_16, s_Sightings_alikeTo_17, s_Sightings_alikeTo_20, s_Sightings_alikeTo_22, s_Sightings_alikeTo_23, s_Sightings_alikeTo_26, s_Sightings_alikeTo_27, s_Sightings_alikeTo_28, s_Sightings_alikeTo_31, s_Sightings_alikeTo_34, s_Sightings_alikeTo_37, s_Sightings_alikeTo_40, s_Sightings_alikeTo_43, s_Sightings_alikeTo_44, e5, if_pos (nI_le (Nat.le_refl 5) (show 5 < 2 ^ 31 by decide)), fold2]
  | succ c ih =>
    intro k b hk
    rw [s_Sightings_alikeTo_5]
    simp only [s_Sightings_alikeTo_0, s_Sightings_alikeTo_1, s_Sightings_alikeTo_2, s_Sightings_alikeTo_3, s_Sightings_alikeTo_7, s_Sightings_alikeTo_8, s_Sightings_alikeTo_11, s_Sightings_alikeTo_12, s_Sightings_alikeTo_14, s_Sightings_alikeTo_15, s_Sightings_alikeTo_16, s_Sightings_alikeTo_17, s_Sightings_alikeTo_20, s_Sightings_alikeTo_22, s_Sightings_alikeTo_23, s_Sightings_alikeTo_26, s_Sightings_alikeTo_27, s_Sightings_alikeTo_28, s_Sightings_alikeTo_31, s_Sightings_alikeTo_34, s_Sightings_alikeTo_37, s_Sightings_alikeTo_40, s_Sightings_alikeTo_43, s_Sightings_alikeTo_44, e5, if_neg (nI_ge (show k < 5 by omega) (show 5 < 2 ^ 31 by decide)), sigK_eq, Option.bind_some, Option.toList_some, List.cons_append, List.nil_append, fold2, aliF, nI_1, ih (k + 1) _ (show k + 1 + c = 5 by omega)]
    split
    · rfl
    · split <;> rfl
theorem ali_in {h : jx_H} {x P d : Int32} : rn F (lv + 2) 48 [.int x, .int P, .int d] h = some (some (.int (fold2 (aliF x P d) 0 5 0)), h) := by
  simp only [e_Sightings_alikeTo, s_Sightings_alikeTo_0, s_Sightings_alikeTo_1, s_Sightings_alikeTo_2, s_Sightings_alikeTo_3, s_Sightings_alikeTo_7, s_Sightings_alikeTo_8, s_Sightings_alikeTo_11, s_Sightings_alikeTo_12, s_Sightings_alikeTo_14, s_Sightings_alikeTo_15, s_Sightings_alikeTo_16, s_Sightings_alikeTo_17, s_Sightings_alikeTo_20, s_Sightings_alikeTo_22, s_Sightings_alikeTo_23, s_Sightings_alikeTo_26, s_Sightings_alikeTo_27, s_Sightings_alikeTo_28, s_Sightings_alikeTo_31, s_Sightings_alikeTo_34, s_Sightings_alikeTo_37, s_Sightings_alikeTo_40, s_Sightings_alikeTo_43, s_Sightings_alikeTo_44]
  exact ali_loop 5 0 0 (by omega)
end Sgt
