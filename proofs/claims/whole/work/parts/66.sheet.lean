/-! ===== Sheet.begin ===== -/
section Sht
variable {F : jx_F} {lv : Nat} {I : Nat → Nat → Int32} {J : Nat → Nat → Int64} {s : Nat}
/-- the first k places of cell c are nought -/
def zeroL (J : Nat → Nat → Int64) (c k : Nat) : Nat → Nat → Int64 := fun x y => if x = c then if y < k then 0 else J x y else J x y
theorem zeroL_0 {c : Nat} : zeroL J c 0 = J := by funext x y; unfold zeroL; split <;> rfl
theorem zeroL_s {c k : Nat} : up2L (zeroL J c k) c k 0 = zeroL J c (k + 1) := by
  funext x y
  by_cases hx : x = c
  · subst hx
    rw [up2L_eq]
    unfold vp_updL zeroL
    rw [if_pos rfl, if_pos rfl]
    by_cases hy : y = k
    · subst hy; rw [if_pos rfl, if_pos (by omega)]
    · rw [if_neg hy]
      by_cases hy2 : y < k
      · rw [if_pos hy2, if_pos (by omega)]
      · rw [if_neg hy2, if_neg (by omega)]
  · rw [up2L_ne hx]; unfold zeroL; rw [if_neg hx, if_neg hx]
theorem sbeg_loop {x z : Int32} (h : Sh s) : ∀ (c i : Nat), i + c = 10 → ev F lv jm_Sheet_begin 21 [.ref s, .int x, .int z, .int (nI i)] [] (HH I (zeroL J (s + 1) i)) = some (none, HH I (zeroL J (s + 1) 10)) := by
  have e10 : (10 : Int32) = nI 10 := rfl
  intro c
  induction c with
  | zero =>
    intro i hi
    obtain rfl : i = 10 := by omega
    rw [s_Sheet_begin_21]
    simp only [s_Sheet_begin_0, s_Sheet_begin_1, s_Sheet_begin_2, s_Sheet_begin_5, s_Sheet_begin_6, s_Sheet_begin_7, s_Sheet_begin_8, s_Sheet_begin_10, s_Sheet_begin_13, s_Sheet_begin_16, s_Sheet_begin_19, s_Sheet_begin_20, s_Sheet_begin_22, s_Sheet_begin_24, s_Sheet_begin_27, s_Sheet_begin_28, s_Sheet_begin_31, s_Sheet_begin_32, s_Sheet_begin_33, s_Sheet_begin_34, s_Sheet_begin_37, s_Sheet_begin_40, e10, if_pos (nI_le (Nat.le_refl 10) (show 10 < 2 ^ 31 by decide))]
  | succ c ih =>
    intro i hi
    rw [s_Sheet_begin_21]
    simp only [s_Sheet_begin_0, s_Sheet_begin_1, s_Sheet_begin_2, s_Sheet_begin_5, s_Sheet_begin_6, s_Sheet_begin_7, s_Sheet_begin_8, s_Sheet_begin_10, s_Sheet_begin_13, s_Sheet_begin_16, s_Sheet_begin_19, s_Sheet_begin_20, s_Sheet_begin_22, s_Sheet_begin_24, s_Sheet_begin_27, s_Sheet_begin_28, s_Sheet_begin_31, s_Sheet_begin_32, s_Sheet_begin_33, s_Sheet_begin_34, s_Sheet_begin_37, s_Sheet_begin_40, e10, sh_0 h, if_neg (nI_ge (show i < 10 by omega) (show 10 < 2 ^ 31 by decide)), sh_p h, at_in (show i < 10 by omega) (show 10 < 2 ^ 31 by decide), nI_clamp (show i < 2 ^ 31 by omega), zeroL_s, nI_1, ih (i + 1) (show i + 1 + c = 10 by omega)]
theorem sbeg_in {x z : Int32} (h : Sh s) : rn F (lv + 1) 36 [.ref s, .int x, .int z] (HH I J) = some (none, HH (up2 (up2 I s 1 x) s 2 (if 0 < (if 10 < z then 10 else z) then (if 10 < z then 10 else z) else 0)) (zeroL J (s + 1) 10)) := by
  simp only [e_Sheet_begin, s_Sheet_begin_0, s_Sheet_begin_1, s_Sheet_begin_2, s_Sheet_begin_5, s_Sheet_begin_6, s_Sheet_begin_7, s_Sheet_begin_8, s_Sheet_begin_10, s_Sheet_begin_13, s_Sheet_begin_16, s_Sheet_begin_19, s_Sheet_begin_20, s_Sheet_begin_22, s_Sheet_begin_24, s_Sheet_begin_27, s_Sheet_begin_28, s_Sheet_begin_31, s_Sheet_begin_32, s_Sheet_begin_33, s_Sheet_begin_34, s_Sheet_begin_37, s_Sheet_begin_40, sh_p1 h, sh_p2 h]
  have l := sbeg_loop (F := F) (lv := lv + 1) (x := x) (z := z) (I := up2 (up2 I s 1 x) s 2 (if 0 < (if 10 < z then 10 else z) then (if 10 < z then 10 else z) else 0)) (J := J) h 10 0 (by omega)
  rw [zeroL_0] at l
  exact l
end Sht
