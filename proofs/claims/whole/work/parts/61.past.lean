/-! ===== Past ===== -/
section Pst
variable {F : jx_F} {lv : Nat} {I : Nat → Nat → Int32} {J : Nat → Nat → Int64} {b : Nat}
theorem ar_past {k : Nat} (h : k < 8) : Ar (21 + 4 * k) := by
  match k, h with
  | 0, _ => exact ar_21
  | 1, _ => exact ar_25
  | 2, _ => exact ar_29
  | 3, _ => exact ar_33
  | 4, _ => exact ar_37
  | 5, _ => exact ar_41
  | 6, _ => exact ar_45
  | 7, _ => exact ar_49
theorem ga_past {α : Type} {k : Nat} {f : Nat → Option α} (h : k < 8) : jx_ga (HH I J) 20 (nI k) f = f (21 + 4 * k) := by
  have hl : lay[20]? = some (10, 8, [some 21, some 25, some 29, some 33, some 37, some 41, some 45, some 49]) := rfl
  rw [m_ga hl rfl lf_20, at_in h (by decide), nI_clamp (by omega)]
  match k, h with
  | 0, _ => rfl
  | 1, _ => rfl
  | 2, _ => rfl
  | 3, _ => rfl
  | 4, _ => rfl
  | 5, _ => rfl
  | 6, _ => rfl
  | 7, _ => rfl
theorem clear_eq : rn F lv 31 [.ref 19] (HH I J) = some (none, HH (up2 (up2 I 19 1 0) 19 2 0) J) := by
  simp only [e_Past_clear, s_Past_clear_0, s_Past_clear_1, s_Past_clear_2, s_Past_clear_5, s_Past_clear_6, s_Past_clear_7, s_Past_clear_10, p_19_1, p_19_2]
/-- the next place of the ring -/
def ringN (k : Nat) : Nat := if k = 7 then 0 else k + 1
def ringP (k : Nat) : Nat := if k = 0 then 7 else k - 1
def remI (I : Nat → Nat → Int32) (b k c : Nat) : Nat → Nat → Int32 := up2 (up2 (takeI I (21 + 4 * k) b) 19 1 (nI (ringN k))) 19 2 (nI (min 8 (c + 1)))
theorem take_19 {a x : Nat} (h : 19 < a) (hx : x ≤ 19) : takeI I a b x = I x := by
  unfold takeI; rw [if_neg (by omega), if_neg (by omega), if_neg (by omega), if_neg (by omega)]
theorem rem_in {k c : Nat} (g : Ar b) (hb : b + 3 < 19) (hk : k < 8) (hc : c ≤ 8) (ek : I 19 1 = nI k) (ec : I 19 2 = nI c) : rn F (lv + 2) 32 [.ref 19, .ref b] (HH I J) = some (none, HH (remI I b k c) J) := by
  have e8 : (if nI (c + 1) < 8 then nI (c + 1) else 8) = nI (min 8 (c + 1)) := by
    by_cases q : c + 1 < 8
    · rw [if_pos (show nI (c + 1) < 8 from nI_lt (b := 8) q (by decide)), Nat.min_eq_right (by omega)]
    · rw [if_neg (show ¬ nI (c + 1) < 8 from nI_nlt (b := 8) (by omega) (by omega)), Nat.min_eq_left (by omega)]; rfl
  have t1 : takeI I (21 + 4 * k) b 19 = I 19 := take_19 (by omega) (by omega)
  simp only [e_Past_remember, s_Past_remember_0, s_Past_remember_1, s_Past_remember_4, s_Past_remember_5, s_Past_remember_8, s_Past_remember_9, s_Past_remember_10 (ar_rcv (ar_past hk)), s_Past_remember_13, s_Past_remember_14, s_Past_remember_15, s_Past_remember_18, s_Past_remember_20, s_Past_remember_23, s_Past_remember_24, s_Past_remember_27, s_Past_remember_28, s_Past_remember_31, s_Past_remember_32, s_Past_remember_33, s_Past_remember_36, s_Past_remember_37, s_Past_remember_39, s_Past_remember_40, s_Past_remember_43, s_Past_remember_44, s_Past_remember_45, s_Past_remember_48, s_Past_remember_51, g_19_0, g_19_1, g_19_2, ek, ga_past hk, take_in (ar_past hk) g (show b + 3 < 21 + 4 * k ∨ 21 + 4 * k + 3 < b by omega), Option.bind_some, Option.toList_some, Option.toList_none, List.cons_append, List.nil_append, i10, i01, if_false, if_true, nI_add, nI_1, t1, p_19_1, p_19_2, up2_eq]
  by_cases q : k = 7
  · subst q
    simp only [show nI 7 = 7 from rfl, if_true, p_19_1, p_19_2, g_19_2, up2_eq, t1, pk_un (show (2 : Nat) ≠ 1 by decide), ec, nI_1, e8, s_Past_remember_0, s_Past_remember_1, s_Past_remember_4, s_Past_remember_5, s_Past_remember_8, s_Past_remember_9, s_Past_remember_13, s_Past_remember_14, s_Past_remember_15, s_Past_remember_18, s_Past_remember_20, s_Past_remember_23, s_Past_remember_24, s_Past_remember_27, s_Past_remember_28, s_Past_remember_31, s_Past_remember_32, s_Past_remember_33, s_Past_remember_36, s_Past_remember_37, s_Past_remember_39, s_Past_remember_40, s_Past_remember_43, s_Past_remember_44, s_Past_remember_45, s_Past_remember_48, s_Past_remember_51]
    rfl
  · have n7 : ¬ nI k = 7 := by
      intro z
      have t := nI_toInt (show k < 2 ^ 31 by omega)
      have e : (7 : Int32).toInt = 7 := by decide
      rw [z] at t
      omega
    simp only [if_neg n7, p_19_1, p_19_2, g_19_2, up2_eq, t1, pk_un (show (2 : Nat) ≠ 1 by decide), ec, nI_1, e8, s_Past_remember_0, s_Past_remember_1, s_Past_remember_4, s_Past_remember_5, s_Past_remember_8, s_Past_remember_9, s_Past_remember_13, s_Past_remember_14, s_Past_remember_15, s_Past_remember_18, s_Past_remember_20, s_Past_remember_23, s_Past_remember_24, s_Past_remember_27, s_Past_remember_28, s_Past_remember_31, s_Past_remember_32, s_Past_remember_33, s_Past_remember_36, s_Past_remember_37, s_Past_remember_39, s_Past_remember_40, s_Past_remember_43, s_Past_remember_44, s_Past_remember_45, s_Past_remember_48, s_Past_remember_51]
    unfold remI ringN
    rw [if_neg q]
def resI (I : Nat → Nat → Int32) (b k c : Nat) : Nat → Nat → Int32 := takeI (up2 (up2 I 19 1 (nI (ringP k))) 19 2 (nI (c - 1))) b (21 + 4 * ringP k)
theorem ringP_lt {k : Nat} (h : k < 8) : ringP k < 8 := by unfold ringP; split <;> omega
theorem res_0 (ec : I 19 2 = 0) : rn F lv 33 [.ref 19, .ref b] (HH I J) = some (some (.int 0), HH I J) := by
  simp only [e_Past_restore, s_Past_restore_0, s_Past_restore_1, s_Past_restore_4, s_Past_restore_7, rz_Past_restore_8, ro_Past_restore_8, s_Past_restore_9, s_Past_restore_10, s_Past_restore_11, s_Past_restore_14, s_Past_restore_17, s_Past_restore_19, s_Past_restore_22, s_Past_restore_23, s_Past_restore_26, s_Past_restore_27, s_Past_restore_28, s_Past_restore_31, s_Past_restore_32, s_Past_restore_33, s_Past_restore_36, s_Past_restore_37, s_Past_restore_38, s_Past_restore_41, s_Past_restore_42, s_Past_restore_43, s_Past_restore_46, s_Past_restore_47, s_Past_restore_50, s_Past_restore_54, rz_Past_restore_55, ro_Past_restore_55, g_19_2, ec, if_true]
theorem res_in {k c : Nat} (g : Ar b) (hb : b + 3 < 19) (hk : k < 8) (h0 : 0 < c) (hc : c ≤ 8) (ek : I 19 1 = nI k) (ec : I 19 2 = nI c) : rn F (lv + 2) 33 [.ref 19, .ref b] (HH I J) = some (some (.int 1), HH (resI I b k c) J) := by
  have hp := ringP_lt hk
  have ec1 : nI c - 1 = nI (c - 1) := pk_sub (b := 1) (by omega)
  by_cases q : k = 0
  · subst q
    have e7 : (7 : Int32) = nI (ringP 0) := rfl
    simp only [e_Past_restore, s_Past_restore_0, s_Past_restore_1, s_Past_restore_4, s_Past_restore_7, rz_Past_restore_8, ro_Past_restore_8, s_Past_restore_9, s_Past_restore_10, s_Past_restore_11, s_Past_restore_14, s_Past_restore_17, s_Past_restore_19, s_Past_restore_22, s_Past_restore_23, s_Past_restore_26, s_Past_restore_27, s_Past_restore_28, s_Past_restore_31, s_Past_restore_32, s_Past_restore_33, s_Past_restore_36, s_Past_restore_37, s_Past_restore_38, s_Past_restore_41, s_Past_restore_42, s_Past_restore_43, s_Past_restore_46, s_Past_restore_47, s_Past_restore_50, s_Past_restore_51 (ar_rcv g), s_Past_restore_54, rz_Past_restore_55, ro_Past_restore_55, g_19_0, g_19_1, g_19_2, ek, ec, if_neg (nI_ne0 h0 (show c < 2 ^ 31 by omega)), show (nI 0 = 0) = True from eq_true rfl, if_true, p_19_1, p_19_2, up2_eq, pk_un (show (2 : Nat) ≠ 1 by decide), pk_un (show (1 : Nat) ≠ 2 by decide), pk_us, ec1, e7, ga_past hp, take_in g (ar_past hp) (show 21 + 4 * ringP 0 + 3 < b ∨ b + 3 < 21 + 4 * ringP 0 by omega), Option.bind_some, Option.toList_some, Option.toList_none, List.cons_append, List.nil_append, i10, i01, if_false, if_true, nI_add, nI_1]
    rfl
  · have ep : nI k - 1 = nI (ringP k) := by unfold ringP; rw [if_neg q]; exact pk_sub (b := 1) (by omega)
    simp only [e_Past_restore, s_Past_restore_0, s_Past_restore_1, s_Past_restore_4, s_Past_restore_7, rz_Past_restore_8, ro_Past_restore_8, s_Past_restore_9, s_Past_restore_10, s_Past_restore_11, s_Past_restore_14, s_Past_restore_17, s_Past_restore_19, s_Past_restore_22, s_Past_restore_23, s_Past_restore_26, s_Past_restore_27, s_Past_restore_28, s_Past_restore_31, s_Past_restore_32, s_Past_restore_33, s_Past_restore_36, s_Past_restore_37, s_Past_restore_38, s_Past_restore_41, s_Past_restore_42, s_Past_restore_43, s_Past_restore_46, s_Past_restore_47, s_Past_restore_50, s_Past_restore_51 (ar_rcv g), s_Past_restore_54, rz_Past_restore_55, ro_Past_restore_55, g_19_0, g_19_1, g_19_2, ek, ec, if_neg (nI_ne0 h0 (show c < 2 ^ 31 by omega)), if_neg (nI_ne0 (show 0 < k by omega) (show k < 2 ^ 31 by omega)), p_19_1, p_19_2, up2_eq, pk_un (show (2 : Nat) ≠ 1 by decide), pk_un (show (1 : Nat) ≠ 2 by decide), pk_us, ec1, ep, ga_past hp, take_in g (ar_past hp) (show 21 + 4 * ringP k + 3 < b ∨ b + 3 < 21 + 4 * ringP k by omega), Option.bind_some, Option.toList_some, Option.toList_none, List.cons_append, List.nil_append, i10, i01, if_false, if_true, nI_add, nI_1]
    rfl
end Pst
