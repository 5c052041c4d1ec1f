/-! ===== Army: bringHamper ===== -/
/-- the first k places of cell c are given by g -/
def upTo (I : Nat → Nat → Int32) (c : Nat) (g : Nat → Int32) (k : Nat) : Nat → Nat → Int32 := fun x y => if x = c then if y < k then g y else I x y else I x y
theorem upTo_ne {I : Nat → Nat → Int32} {c k x : Nat} {g : Nat → Int32} (h : x ≠ c) : upTo I c g k x = I x := by funext y; unfold upTo; rw [if_neg h]
theorem upTo_ge {I : Nat → Nat → Int32} {c k y : Nat} {g : Nat → Int32} (h : k ≤ y) : upTo I c g k c y = I c y := by unfold upTo; rw [if_pos rfl, if_neg (by omega)]
theorem upTo_lt {I : Nat → Nat → Int32} {c k y : Nat} {g : Nat → Int32} (h : y < k) : upTo I c g k c y = g y := by unfold upTo; rw [if_pos rfl, if_pos h]
theorem upTo_0 {I : Nat → Nat → Int32} {c : Nat} {g : Nat → Int32} : upTo I c g 0 = I := by funext x y; unfold upTo; split <;> rfl
theorem upTo_s {I : Nat → Nat → Int32} {c k : Nat} {g : Nat → Int32} {v : Int32} (h : v = g k) : up2 (upTo I c g k) c k v = upTo I c g (k + 1) := by
  subst h
  funext x y
  by_cases hx : x = c
  · subst hx
    rw [up2_eq]
    unfold upd upTo
    rw [if_pos rfl, if_pos rfl]
    by_cases hy : y = k
    · subst hy; rw [if_pos rfl, if_pos (by omega)]
    · rw [if_neg hy]
      by_cases hy2 : y < k
      · rw [if_pos hy2, if_pos (by omega)]
      · rw [if_neg hy2, if_neg (by omega)]
  · rw [up2_ne hx, upTo_ne hx, upTo_ne hx]
theorem upTo_k {I : Nat → Nat → Int32} {c k : Nat} {g : Nat → Int32} (h : g k = I c k) : upTo I c g (k + 1) = upTo I c g k := by
  funext x y
  unfold upTo
  by_cases hx : x = c
  · rw [if_pos hx, if_pos hx]
    by_cases hy : y = k
    · subst hy; rw [if_pos (by omega), if_neg (by omega), h, hx]
    · by_cases hy2 : y < k
      · rw [if_pos hy2, if_pos (by omega)]
      · rw [if_neg hy2, if_neg (by omega)]
  · rw [if_neg hx, if_neg hx]
/-- an army as it may be -/
def Wf (I : Nat → Nat → Int32) (a n : Nat) : Prop := Mn I a n ∧ (∀ j, j < 2 * n → ∃ k, k ≤ 4 ∧ I (a + 1) j = nI k) ∧ (∀ j, j < 2 * n → ∃ b, b ≤ 6 ∧ I (a + 2) j = nI b) ∧ (∀ j, j < 2 * n → ∃ o, o < 2 * n ∧ I (a + 3) j = nI o)
theorem Wf.mn {I : Nat → Nat → Int32} {a n : Nat} (w : Wf I a n) : Mn I a n := w.1
theorem Wf.kd {I : Nat → Nat → Int32} {a n : Nat} (w : Wf I a n) : ∀ j, j < 2 * n → ∃ k, k ≤ 4 ∧ I (a + 1) j = nI k := w.2.1
theorem Wf.bt {I : Nat → Nat → Int32} {a n : Nat} (w : Wf I a n) : ∀ j, j < 2 * n → ∃ b, b ≤ 6 ∧ I (a + 2) j = nI b := w.2.2.1
theorem Wf.md {I : Nat → Nat → Int32} {a n : Nat} (w : Wf I a n) : ∀ j, j < 2 * n → ∃ o, o < 2 * n ∧ I (a + 3) j = nI o := w.2.2.2
/-- buttons behind the hamper -/
def hamB (I : Nat → Nat → Int32) (a j : Nat) : Int32 :=
  if I (a + 2) j = 0 then I (a + 2) j else if I (a + 2) (I (a + 3) j).toNatClampNeg = 0 then I (a + 2) j else if I (a + 2) j + 1 < 6 then I (a + 2) j + 1 else 6
section Arm
variable {F : jx_F} {lv : Nat} {I : Nat → Nat → Int32} {J : Nat → Nat → Int64} {a : Nat}
theorem ham_0 {n j : Nat} (w : Wf I a n) (hj : j < 2 * n) : (hamB I a j = 0) = (I (a + 2) j = 0) := by
  obtain ⟨b, hb, e⟩ := w.bt j hj
  unfold hamB
  split
  · rfl
  · split
    · rfl
    · next h _ =>
      apply propext
      constructor
      · intro q
        exfalso
        split at q
        · rw [e, nI_1] at q; exact nI_ne0 (by omega) (by omega) q
        · exact absurd q (by decide)
      · intro q; exact absurd q h
theorem hamI_0 {n j k : Nat} (w : Wf I a n) (hj : j < 2 * n) : (upTo I (a + 2) (hamB I a) k (a + 2) j = 0) = (I (a + 2) j = 0) := by
  by_cases h : j < k
  · rw [upTo_lt h, ham_0 w hj]
  · rw [upTo_ge (by omega)]
theorem mn_up {n k : Nat} {g : Nat → Int32} {c : Nat} (hc : a ≠ c) (h : Mn I a n) : Mn (upTo I c g k) a n := by
  unfold Mn; rw [upTo_ne hc]; exact h
theorem ham_loop {n : Nat} (h : Ar a) (w : Wf I a n) : ∀ (c m : Nat), m + c = 2 * n → ev F (lv + 2) jm_Army_bringHamper 2 [.ref a, .int (nI m)] [] (HH (upTo I (a + 2) (hamB I a) m) J) = some (none, HH (upTo I (a + 2) (hamB I a) (2 * n)) J) := by
  have hn := w.mn
  have := hn.2.2
  intro c
  induction c with
  | zero =>
    intro m hm
    obtain rfl : m = 2 * n := by omega
    have hn' : Mn (upTo I (a + 2) (hamB I a) (2 * n)) a n := mn_up (by omega) hn
    simp only [s_Army_bringHamper_0, s_Army_bringHamper_1, s_Army_bringHamper_2, s_Army_bringHamper_3, s_Army_bringHamper_4, s_Army_bringHamper_5, s_Army_bringHamper_8, s_Army_bringHamper_9, s_Army_bringHamper_12, s_Army_bringHamper_13, s_Army_bringHamper_14 (ar_rcv h), s_Army_bringHamper_17, s_Army_bringHamper_20, s_Army_bringHamper_21, s_Army_bringHamper_22, s_Army_bringHamper_25, s_Army_bringHamper_26, s_Army_bringHamper_27 (ar_rcv h), s_Army_bringHamper_30, s_Army_bringHamper_33, s_Army_bringHamper_34, s_Army_bringHamper_37, s_Army_bringHamper_38, s_Army_bringHamper_40, s_Army_bringHamper_41, s_Army_bringHamper_44, s_Army_bringHamper_45, s_Army_bringHamper_46, s_Army_bringHamper_47, s_Army_bringHamper_48, s_Army_bringHamper_51, s_Army_bringHamper_52, s_Army_bringHamper_55, s_Army_bringHamper_58, ar_men h, mn_2 hn', if_pos (nI_le (Nat.le_refl (2 * n)) (show 2 * n < 2 ^ 31 by omega))]
  | succ c ih =>
    intro m hm
    have hn' : Mn (upTo I (a + 2) (hamB I a) m) a n := mn_up (by omega) hn
    obtain ⟨o, ho, eo⟩ := w.md m (by omega)
    have e0 : (I (a + 3) m).toNatClampNeg = o := by rw [eo, nI_clamp (by omega)]
    rw [s_Army_bringHamper_2]
    simp only [s_Army_bringHamper_0, s_Army_bringHamper_1, s_Army_bringHamper_3, s_Army_bringHamper_4, s_Army_bringHamper_5, s_Army_bringHamper_8, s_Army_bringHamper_9, s_Army_bringHamper_12, s_Army_bringHamper_13, s_Army_bringHamper_14 (ar_rcv h), s_Army_bringHamper_17, s_Army_bringHamper_20, s_Army_bringHamper_21, s_Army_bringHamper_22, s_Army_bringHamper_25, s_Army_bringHamper_26, s_Army_bringHamper_27 (ar_rcv h), s_Army_bringHamper_30, s_Army_bringHamper_33, s_Army_bringHamper_34, s_Army_bringHamper_37, s_Army_bringHamper_38, s_Army_bringHamper_40, s_Army_bringHamper_41, s_Army_bringHamper_44, s_Army_bringHamper_45, s_Army_bringHamper_46, s_Army_bringHamper_47, s_Army_bringHamper_48, s_Army_bringHamper_51, s_Army_bringHamper_52, s_Army_bringHamper_55, s_Army_bringHamper_58, ar_men h, mn_2 hn', if_neg (nI_ge (show m < 2 * n by omega) (show 2 * n < 2 ^ 31 by omega)), home_in h hn' (show m < 2 * n by omega), hamI_0 w (show m < 2 * n by omega)]
    by_cases h1 : I (a + 2) m = 0
    · have e : hamB I a m = I (a + 2) m := by unfold hamB; rw [if_pos h1]
      have ih' := ih (m + 1) (by omega)
      rw [upTo_k e] at ih'
      simp only [h1, Option.bind_some, Option.toList_some, Option.toList_none, List.cons_append, List.nil_append, i10, i01, if_false, if_true, nI_add, nI_1, s_Army_bringHamper_0, s_Army_bringHamper_1, s_Army_bringHamper_3, s_Army_bringHamper_4, s_Army_bringHamper_5, s_Army_bringHamper_8, s_Army_bringHamper_9, s_Army_bringHamper_12, s_Army_bringHamper_13, s_Army_bringHamper_17, s_Army_bringHamper_20, s_Army_bringHamper_21, s_Army_bringHamper_22, s_Army_bringHamper_25, s_Army_bringHamper_26, s_Army_bringHamper_30, s_Army_bringHamper_33, s_Army_bringHamper_34, s_Army_bringHamper_37, s_Army_bringHamper_38, s_Army_bringHamper_40, s_Army_bringHamper_41, s_Army_bringHamper_44, s_Army_bringHamper_45, s_Army_bringHamper_46, s_Army_bringHamper_47, s_Army_bringHamper_48, s_Army_bringHamper_51, s_Army_bringHamper_52, s_Army_bringHamper_55, s_Army_bringHamper_58, ih']
    · simp only [h1, Option.bind_some, Option.toList_some, Option.toList_none, List.cons_append, List.nil_append, i10, i01, if_false, if_true, nI_add, nI_1, s_Army_bringHamper_0, s_Army_bringHamper_1, s_Army_bringHamper_3, s_Army_bringHamper_4, s_Army_bringHamper_5, s_Army_bringHamper_8, s_Army_bringHamper_9, s_Army_bringHamper_12, s_Army_bringHamper_13, s_Army_bringHamper_14 (ar_rcv h), s_Army_bringHamper_17, s_Army_bringHamper_20, s_Army_bringHamper_21, s_Army_bringHamper_22, s_Army_bringHamper_25, s_Army_bringHamper_26, s_Army_bringHamper_27 (ar_rcv h), s_Army_bringHamper_30, s_Army_bringHamper_33, s_Army_bringHamper_34, s_Army_bringHamper_37, s_Army_bringHamper_38, s_Army_bringHamper_40, s_Army_bringHamper_41, s_Army_bringHamper_44, s_Army_bringHamper_45, s_Army_bringHamper_46, s_Army_bringHamper_47, s_Army_bringHamper_48, s_Army_bringHamper_51, s_Army_bringHamper_52, s_Army_bringHamper_55, s_Army_bringHamper_58, ar_mnd h, ar_g3 h, at_in (show m < 8 by omega) (by decide), nI_clamp (show m < 2 ^ 31 by omega), upTo_ne (show a + 3 ≠ a + 2 by omega), eo, home_in h hn' ho, hamI_0 w ho]
      by_cases h2 : I (a + 2) o = 0
      · have e : hamB I a m = I (a + 2) m := by unfold hamB; rw [if_neg h1, e0, if_pos h2]
        have ih' := ih (m + 1) (by omega)
        rw [upTo_k e] at ih'
        simp only [h2, Option.bind_some, Option.toList_some, Option.toList_none, List.cons_append, List.nil_append, i10, i01, if_false, if_true, nI_add, nI_1, s_Army_bringHamper_0, s_Army_bringHamper_1, s_Army_bringHamper_3, s_Army_bringHamper_4, s_Army_bringHamper_5, s_Army_bringHamper_8, s_Army_bringHamper_9, s_Army_bringHamper_12, s_Army_bringHamper_13, s_Army_bringHamper_17, s_Army_bringHamper_20, s_Army_bringHamper_21, s_Army_bringHamper_22, s_Army_bringHamper_25, s_Army_bringHamper_26, s_Army_bringHamper_30, s_Army_bringHamper_33, s_Army_bringHamper_34, s_Army_bringHamper_37, s_Army_bringHamper_38, s_Army_bringHamper_40, s_Army_bringHamper_41, s_Army_bringHamper_44, s_Army_bringHamper_45, s_Army_bringHamper_46, s_Army_bringHamper_47, s_Army_bringHamper_48, s_Army_bringHamper_51, s_Army_bringHamper_52, s_Army_bringHamper_55, s_Army_bringHamper_58, ih']
      · have e : (if I (a + 2) m + 1 < 6 then I (a + 2) m + 1 else 6) = hamB I a m := by unfold hamB; rw [if_neg h1, e0, if_neg h2]
        simp only [h2, Option.bind_some, Option.toList_some, Option.toList_none, List.cons_append, List.nil_append, i10, i01, if_false, if_true, nI_add, nI_1, s_Army_bringHamper_0, s_Army_bringHamper_1, s_Army_bringHamper_3, s_Army_bringHamper_4, s_Army_bringHamper_5, s_Army_bringHamper_8, s_Army_bringHamper_9, s_Army_bringHamper_12, s_Army_bringHamper_13, s_Army_bringHamper_17, s_Army_bringHamper_20, s_Army_bringHamper_21, s_Army_bringHamper_22, s_Army_bringHamper_25, s_Army_bringHamper_26, s_Army_bringHamper_30, s_Army_bringHamper_33, s_Army_bringHamper_34, s_Army_bringHamper_37, s_Army_bringHamper_38, s_Army_bringHamper_40, s_Army_bringHamper_41, s_Army_bringHamper_44, s_Army_bringHamper_45, s_Army_bringHamper_46, s_Army_bringHamper_47, s_Army_bringHamper_48, s_Army_bringHamper_51, s_Army_bringHamper_52, s_Army_bringHamper_55, s_Army_bringHamper_58, ar_but h, ar_g2 h, ar_p2 h, at_in (show m < 8 by omega) (by decide), nI_clamp (show m < 2 ^ 31 by omega), upTo_ge (Nat.le_refl m), upTo_s e, ih (m + 1) (by omega)]
theorem ham_in {n : Nat} (h : Ar a) (w : Wf I a n) : rn F (lv + 2) 14 [.ref a] (HH I J) = some (none, HH (upTo I (a + 2) (hamB I a) (2 * n)) J) := by
  have l := ham_loop (F := F) (lv := lv) (J := J) h w (2 * n) 0 (by omega)
  rw [upTo_0] at l
  simp only [e_Army_bringHamper, s_Army_bringHamper_0, s_Army_bringHamper_1, s_Army_bringHamper_3, s_Army_bringHamper_4, s_Army_bringHamper_5, s_Army_bringHamper_8, s_Army_bringHamper_9, s_Army_bringHamper_12, s_Army_bringHamper_13, s_Army_bringHamper_17, s_Army_bringHamper_20, s_Army_bringHamper_21, s_Army_bringHamper_22, s_Army_bringHamper_25, s_Army_bringHamper_26, s_Army_bringHamper_30, s_Army_bringHamper_33, s_Army_bringHamper_34, s_Army_bringHamper_37, s_Army_bringHamper_38, s_Army_bringHamper_40, s_Army_bringHamper_41, s_Army_bringHamper_44, s_Army_bringHamper_45, s_Army_bringHamper_46, s_Army_bringHamper_47, s_Army_bringHamper_48, s_Army_bringHamper_51, s_Army_bringHamper_52, s_Army_bringHamper_55, s_Army_bringHamper_58]
  exact l
end Arm
