/-! ===== Sightings: the best day ===== -/
section Sgt
variable {F : jx_F} {lv : Nat} {I : Nat → Nat → Int32} {J : Nat → Nat → Int64}
def grpF (P d : Int32) (k : Nat) (b : Int32) : Int32 := if (P >>> (nI k &&& 31)) &&& 1 = 0 then b else if b < fold2 (aliF (nI k) P d) 0 5 0 then fold2 (aliF (nI k) P d) 0 5 0 else b
theorem grp_loop {h : jx_H} {P d : Int32} : ∀ (c k : Nat) (b : Int32), k + c = 5 → ev F (lv + 3) jm_Sightings_greatestPart 4 [.int P, .int d, .int b, .int (nI k)] [] h = some (some (.int (fold2 (grpF P d) k c b)), h) := by
  have e5 : (5 : Int32) = nI 5 := rfl
  intro c
  induction c with
  | zero =>
    intro k b hk
    obtain rfl : k = 5 := by omega
    rw [s_Sightings_greatestPart_4]
    simp only [s_Sightings_greatestPart_0, s_Sightings_greatestPart_1, s_Sightings_greatestPart_2, s_Sightings_greatestPart_3, s_Sightings_greatestPart_5, s_Sightings_greatestPart_6, s_Sightings_greatestPart_9, s_Sightings_greatestPart_10, s_Sightings_greatestPart_11, s_Sightings_greatestPart_12, s_Sightings_greatestPart_13, s_Sightings_greatestPart_14, s_Sightings_greatestPart_17, s_Sightings_greatestPart_18, s_Sightings_greatestPart_19, s_Sightings_greatestPart_20, s_Sightings_greatestPart_21, s_Sightings_greatestPart_24, s_Sightings_greatestPart_27, s_Sightings_greatestPart_28, s_Sightings_greatestPart_31, s_Sightings_greatestPart_34, s_Sightings_greatestPart_35, e5, if_pos (nI_le (Nat.le_refl 5) (show 5 < 2 ^ 31 by decide)), fold2]
  | succ c ih =>
    intro k b hk
    rw [s_Sightings_greatestPart_4]
    simp only [s_Sightings_greatestPart_0, s_Sightings_greatestPart_1, s_Sightings_greatestPart_2, s_Sightings_greatestPart_3, s_Sightings_greatestPart_5, s_Sightings_greatestPart_6, s_Sightings_greatestPart_9, s_Sightings_greatestPart_10, s_Sightings_greatestPart_11, s_Sightings_greatestPart_12, s_Sightings_greatestPart_13, s_Sightings_greatestPart_14, s_Sightings_greatestPart_17, s_Sightings_greatestPart_18, s_Sightings_greatestPart_19, s_Sightings_greatestPart_20, s_Sightings_greatestPart_21, s_Sightings_greatestPart_24, s_Sightings_greatestPart_27, s_Sightings_greatestPart_28, s_Sightings_greatestPart_31, s_Sightings_greatestPart_34, s_Sightings_greatestPart_35, e5, if_neg (nI_ge (show k < 5 by omega) (show 5 < 2 ^ 31 by decide)), ali_in, Option.bind_some, Option.toList_some, List.cons_append, List.nil_append, fold2, grpF, nI_1, ih (k + 1) _ (show k + 1 + c = 5 by omega)]
    split <;> rfl
theorem grp_in {h : jx_H} {P d : Int32} : rn F (lv + 3) 47 [.int P, .int d] h = some (some (.int (fold2 (grpF P d) 0 5 0)), h) := by
  simp only [e_Sightings_greatestPart, s_Sightings_greatestPart_0, s_Sightings_greatestPart_1, s_Sightings_greatestPart_2, s_Sightings_greatestPart_3, s_Sightings_greatestPart_5, s_Sightings_greatestPart_6, s_Sightings_greatestPart_9, s_Sightings_greatestPart_10, s_Sightings_greatestPart_11, s_Sightings_greatestPart_12, s_Sightings_greatestPart_13, s_Sightings_greatestPart_14, s_Sightings_greatestPart_17, s_Sightings_greatestPart_18, s_Sightings_greatestPart_19, s_Sightings_greatestPart_20, s_Sightings_greatestPart_21, s_Sightings_greatestPart_24, s_Sightings_greatestPart_27, s_Sightings_greatestPart_28, s_Sightings_greatestPart_31, s_Sightings_greatestPart_34, s_Sightings_greatestPart_35]
  exact grp_loop 5 0 0 (by omega)
end Sgt
