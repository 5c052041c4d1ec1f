/-! ===== Army: takeFrom, begin ===== -/
section Arm
variable {F : jx_F} {lv : Nat} {I : Nat → Nat → Int32} {J : Nat → Nat → Int64} {a b : Nat}
/-- the army at a takes the one at b -/
def takeI (I : Nat → Nat → Int32) (a b : Nat) : Nat → Nat → Int32 := fun x => if x = a then upd (upd (I a) 3 (I b 3)) 4 (I b 4) else if x = a + 1 then va_cpy (I (b + 1)) (I (a + 1)) 0 0 8 else if x = a + 2 then va_cpy (I (b + 2)) (I (a + 2)) 0 0 8 else if x = a + 3 then va_cpy (I (b + 3)) (I (a + 3)) 0 0 8 else I x
theorem tk_c {α : Type} {x y : Nat} {k : List Value → jx_H → Option α} (hy : lay[y]? = some (0, 8, [])) (hx : lay[x]? = some (0, 8, [])) : jx_cp (HH I J) [.int 8, .int 0, .ref x, .int 0, .ref y] k = k [] (HH (up1 I x (va_cpy (I y) (I x) 0 0 8)) J) := m_cpi hy hx (by decide) (by decide)
theorem take_e (hd : b + 3 < a ∨ a + 3 < b) : up1 (up1 (up1 (up2 (up2 I a 3 (I b 3)) a 4 (I b 4)) (a + 1) (va_cpy (I (b + 1)) (I (a + 1)) 0 0 8)) (a + 2) (va_cpy (I (b + 2)) (I (a + 2)) 0 0 8)) (a + 3) (va_cpy (I (b + 3)) (I (a + 3)) 0 0 8) = takeI I a b := by
  funext x
  unfold takeI
  by_cases h0 : x = a
  · subst h0
    rw [up1_ne (by omega), up1_ne (by omega), up1_ne (by omega), up2_eq, up2_eq, if_pos rfl]
  · rw [if_neg h0]
    by_cases h1 : x = a + 1
    · subst h1
      rw [up1_ne (by omega), up1_ne (by omega), up1_eq, if_pos rfl]
    · rw [if_neg h1]
      by_cases h2 : x = a + 2
      · subst h2
        rw [up1_ne (by omega), up1_eq, if_pos rfl]
      · rw [if_neg h2]
        by_cases h3 : x = a + 3
        · subst h3
          rw [up1_eq, if_pos rfl]
        · rw [if_neg h3, up1_ne h3, up1_ne h2, up1_ne h1, up2_ne h0, up2_ne h0]
theorem take_in (h : Ar a) (g : Ar b) (hd : b + 3 < a ∨ a + 3 < b) : rn F (lv + 1) 2 [.ref a, .ref b] (HH I J) = some (none, HH (takeI I a b) J) := by
  rw [← take_e hd]
  simp only [e_Army_takeFrom, s_Army_takeFrom_0, s_Army_takeFrom_1, s_Army_takeFrom_2, s_Army_takeFrom_5, s_Army_takeFrom_8, s_Army_takeFrom_9, s_Army_takeFrom_10, s_Army_takeFrom_13, s_Army_takeFrom_16, s_Army_takeFrom_17, s_Army_takeFrom_20, s_Army_takeFrom_21, s_Army_takeFrom_22, s_Army_takeFrom_25, s_Army_takeFrom_26, s_Army_takeFrom_28, s_Army_takeFrom_31, s_Army_takeFrom_32, s_Army_takeFrom_35, s_Army_takeFrom_36, s_Army_takeFrom_37, s_Army_takeFrom_40, s_Army_takeFrom_41, s_Army_takeFrom_43, s_Army_takeFrom_46, s_Army_takeFrom_47, s_Army_takeFrom_50, s_Army_takeFrom_51, s_Army_takeFrom_52, s_Army_takeFrom_55, s_Army_takeFrom_56, s_Army_takeFrom_58, s_Army_takeFrom_61, ar_men g, ar_day g, ar_pmen h, ar_pday h, ar_kind g, ar_kind h, ar_but g, ar_but h, ar_mnd g, ar_mnd h, tk_c g.2.1 h.2.1, tk_c g.2.2.1 h.2.2.1, tk_c g.2.2.2 h.2.2.2, up1_ne (show b + 2 ≠ a + 1 by omega), up1_ne (show a + 2 ≠ a + 1 by omega), up1_ne (show b + 3 ≠ a + 1 by omega), up1_ne (show a + 3 ≠ a + 1 by omega), up1_ne (show b + 3 ≠ a + 2 by omega), up1_ne (show a + 3 ≠ a + 2 by omega), up2_ne (show b ≠ a by omega), up2_ne (show b + 1 ≠ a by omega), up2_ne (show b + 2 ≠ a by omega), up2_ne (show b + 3 ≠ a by omega), up2_ne (show a + 1 ≠ a by omega), up2_ne (show a + 2 ≠ a by omega), up2_ne (show a + 3 ≠ a by omega)]
theorem up2_upTo {c c' j k : Nat} {v : Int32} {g : Nat → Int32} (hc : c ≠ c') : up2 (upTo I c' g k) c j v = upTo (up2 I c j v) c' g k := by
  funext x
  by_cases hx : x = c
  · subst hx
    rw [up2_eq, upTo_ne hc, upTo_ne hc, up2_eq]
  · rw [up2_ne hx]
    funext y
    unfold upTo
    rw [up2_ne hx]
/-- the menders at first -/
def begG (n m : Nat) : Int32 := if n ≤ m then nI m - nI n else nI m + nI n
def begK (I : Nat → Nat → Int32) (a n k : Nat) : Nat → Nat → Int32 := upTo (upTo (upTo I (a + 1) (fun _ => 0) k) (a + 2) (fun _ => 3) k) (a + 3) (begG n) k
theorem begK_s {n k : Nat} {v : Int32} (hv : v = begG n k) : up2 (up2 (up2 (begK I a n k) (a + 1) k 0) (a + 2) k 3) (a + 3) k v = begK I a n (k + 1) := by
  unfold begK
  rw [up2_upTo (show a + 1 ≠ a + 3 by omega), up2_upTo (show a + 1 ≠ a + 2 by omega), upTo_s (g := fun _ => 0) rfl, up2_upTo (show a + 2 ≠ a + 3 by omega), upTo_s (g := fun _ => 3) rfl, upTo_s hv]
theorem begK_a {n k : Nat} : begK I a n k a = I a := by
  unfold begK; rw [upTo_ne (by omega), upTo_ne (by omega), upTo_ne (by omega)]
theorem begK_0 {n : Nat} : begK I a n 0 = I := by
  unfold begK; rw [upTo_0, upTo_0, upTo_0]
theorem clampN {n : Nat} (h1 : 1 ≤ n) (h4 : n ≤ 4) : (if (1 : Int32) < (if (4 : Int32) < nI n then 4 else nI n) then (if (4 : Int32) < nI n then 4 else nI n) else 1) = nI n := by
  match n, h1, h4 with
  | 1, _, _ => decide
  | 2, _, _ => decide
  | 3, _, _ => decide
  | 4, _, _ => decide
theorem beg_loop {n : Nat} {x : Int32} (h : Ar a) (hn : Mn I a n) : ∀ (c m : Nat), m + c = 2 * n → ev F (lv + 1) jm_Army_begin 20 [.ref a, .int x, .int (nI m)] [] (HH (begK I a n m) J) = some (none, HH (begK I a n (2 * n)) J) := by
  have := hn.2.2
  intro c
  induction c with
  | zero =>
    intro m hm
    obtain rfl : m = 2 * n := by omega
    rw [s_Army_begin_20]
    simp only [s_Army_begin_0, s_Army_begin_1, s_Army_begin_2, s_Army_begin_3, s_Army_begin_4, s_Army_begin_7, s_Army_begin_10, s_Army_begin_13, s_Army_begin_14, s_Army_begin_15, s_Army_begin_18, s_Army_begin_19, s_Army_begin_21, s_Army_begin_22, s_Army_begin_23, s_Army_begin_26, s_Army_begin_27, s_Army_begin_30, s_Army_begin_31, s_Army_begin_34, s_Army_begin_35, s_Army_begin_36, s_Army_begin_37, s_Army_begin_38, s_Army_begin_41, s_Army_begin_42, s_Army_begin_43, s_Army_begin_44, s_Army_begin_45, s_Army_begin_48, s_Army_begin_49, s_Army_begin_50, s_Army_begin_51, s_Army_begin_54, s_Army_begin_57, s_Army_begin_58, s_Army_begin_59, s_Army_begin_62, s_Army_begin_63, s_Army_begin_66, s_Army_begin_67, s_Army_begin_68, s_Army_begin_71, s_Army_begin_72, s_Army_begin_73, s_Army_begin_76, s_Army_begin_79, ar_men h, begK_a, mn_2 hn, if_pos (nI_le (Nat.le_refl (2 * n)) (show 2 * n < 2 ^ 31 by omega))]
  | succ c ih =>
    intro m hm
    rw [s_Army_begin_20]
    simp only [s_Army_begin_0, s_Army_begin_1, s_Army_begin_2, s_Army_begin_3, s_Army_begin_4, s_Army_begin_7, s_Army_begin_10, s_Army_begin_13, s_Army_begin_14, s_Army_begin_15, s_Army_begin_18, s_Army_begin_19, s_Army_begin_21, s_Army_begin_22, s_Army_begin_23, s_Army_begin_26, s_Army_begin_27, s_Army_begin_30, s_Army_begin_31, s_Army_begin_34, s_Army_begin_35, s_Army_begin_36, s_Army_begin_37, s_Army_begin_38, s_Army_begin_41, s_Army_begin_42, s_Army_begin_43, s_Army_begin_44, s_Army_begin_45, s_Army_begin_48, s_Army_begin_49, s_Army_begin_50, s_Army_begin_51, s_Army_begin_54, s_Army_begin_57, s_Army_begin_58, s_Army_begin_59, s_Army_begin_62, s_Army_begin_63, s_Army_begin_66, s_Army_begin_67, s_Army_begin_68, s_Army_begin_71, s_Army_begin_72, s_Army_begin_73, s_Army_begin_76, s_Army_begin_79, ar_men h, begK_a, mn_2 hn, if_neg (nI_ge (show m < 2 * n by omega) (show 2 * n < 2 ^ 31 by omega)), ar_kind h, ar_but h, ar_mnd h, ar_p1 h, ar_p2 h, at_in (show m < 8 by omega) (by decide), nI_clamp (show m < 2 ^ 31 by omega), up2_ne (show a ≠ a + 1 by omega), up2_ne (show a ≠ a + 2 by omega), hn.1, show (2 : Int32) * nI n = nI (2 * n) from pk_mul 2 n]
    by_cases q : n ≤ m
    · simp only [if_pos (nI_le q (show m < 2 ^ 31 by omega)), ar_p3 h, at_in (show m < 8 by omega) (by decide), nI_clamp (show m < 2 ^ 31 by omega), begK_s (show nI m - nI n = begG n m by unfold begG; rw [if_pos q]), nI_1, ih (m + 1) (show m + 1 + c = 2 * n by omega)]
    · simp only [if_neg (nI_ge (Nat.not_le.mp q) (show n < 2 ^ 31 by omega)), ar_p3 h, at_in (show m < 8 by omega) (by decide), nI_clamp (show m < 2 ^ 31 by omega), begK_s (show nI m + nI n = begG n m by unfold begG; rw [if_neg q]), nI_1, ih (m + 1) (show m + 1 + c = 2 * n by omega)]
/-- an army of n begins -/
def begI (I : Nat → Nat → Int32) (a n : Nat) : Nat → Nat → Int32 := begK (up2 (up2 I a 3 (nI n)) a 4 0) a n (2 * n)
theorem beg_mn {n : Nat} (h1 : 1 ≤ n) (h4 : n ≤ 4) : Mn (up2 (up2 I a 3 (nI n)) a 4 0) a n := by
  refine ⟨?_, h1, h4⟩
  rw [up2_eq, up2_eq, pk_un (by decide), pk_us]
theorem beg_in {n : Nat} (h : Ar a) (h1 : 1 ≤ n) (h4 : n ≤ 4) : rn F (lv + 1) 1 [.ref a, .int (nI n)] (HH I J) = some (none, HH (begI I a n) J) := by
  have l := beg_loop (F := F) (lv := lv) (J := J) (x := nI n) h (beg_mn (I := I) h1 h4) (2 * n) 0 (by omega)
  rw [begK_0] at l
  simp only [e_Army_begin, s_Army_begin_0, s_Army_begin_1, s_Army_begin_2, s_Army_begin_3, s_Army_begin_4, s_Army_begin_7, s_Army_begin_10, s_Army_begin_13, s_Army_begin_14, s_Army_begin_15, s_Army_begin_18, s_Army_begin_19, s_Army_begin_21, s_Army_begin_22, s_Army_begin_23, s_Army_begin_26, s_Army_begin_27, s_Army_begin_30, s_Army_begin_31, s_Army_begin_34, s_Army_begin_35, s_Army_begin_36, s_Army_begin_37, s_Army_begin_38, s_Army_begin_41, s_Army_begin_42, s_Army_begin_43, s_Army_begin_44, s_Army_begin_45, s_Army_begin_48, s_Army_begin_49, s_Army_begin_50, s_Army_begin_51, s_Army_begin_54, s_Army_begin_57, s_Army_begin_58, s_Army_begin_59, s_Army_begin_62, s_Army_begin_63, s_Army_begin_66, s_Army_begin_67, s_Army_begin_68, s_Army_begin_71, s_Army_begin_72, s_Army_begin_73, s_Army_begin_76, s_Army_begin_79, clampN h1 h4, ar_pmen h, ar_pday h]
  exact l
end Arm
