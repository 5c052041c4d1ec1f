/-! ===== the Model: days ===== -/
theorem upTo_congr {I : Nat → Nat → Int32} {c k : Nat} {g g' : Nat → Int32} (h : ∀ y, y < k → g y = g' y) : upTo I c g k = upTo I c g' k := by
  funext x y
  unfold upTo
  by_cases q : y < k
  · rw [if_pos q, if_pos q, h y q]
  · rw [if_neg q, if_neg q]
theorem upTo_put {I : Nat → Nat → Int32} {c k t : Nat} {g g' : Nat → Int32} {v : Int32} (ht : t < k) (hv : v = g' t) (h : ∀ y, y < k → y ≠ t → g y = g' y) : up2 (upTo I c g k) c t v = upTo I c g' k := by
  funext x
  by_cases hx : x = c
  · subst hx
    funext y
    rw [up2_eq]
    by_cases hy : y = t
    · subst hy; rw [pk_us, upTo_lt ht, hv]
    · rw [pk_un hy]
      by_cases q : y < k
      · rw [upTo_lt q, upTo_lt q, h y q hy]
      · rw [upTo_ge (by omega), upTo_ge (by omega)]
  · rw [up2_ne hx, upTo_ne hx, upTo_ne hx]
/-- what days of the Model leave as it was -/
def Fr (I I' : Nat → Nat → Int32) (b : Nat) : Prop := (∀ x, x ≠ 74 → x ≠ 92 → I' x = I x) ∧ (∀ y, (y < b ∨ b + 8 ≤ y) → y ≠ b + 16 → I' 74 y = I 74 y)
section Mdl
variable {F : jx_F} {lv : Nat} {I C : Nat → Nat → Int32} {J : Nat → Nat → Int64} {a b n : Nat}
theorem g92 {α : Type} {k : Nat} {f : Int32 → Option α} (hk : k < 8) : jx_gi (HH I J) 0 92 (nI k) f = f (I 92 k) := by
  rw [gi_92, at_in hk (by decide), nI_clamp (by omega)]
theorem p92 {α : Type} {k : Nat} {x : Int32} {f : jx_H → Option α} (hk : k < 8) : jx_pi (HH I J) 0 92 (nI k) x f = f (HH (up2 I 92 k x) J) := by
  rw [pi_92, at_in hk (by decide), nI_clamp (by omega)]
theorem md_l0 {D k : Int32} {v5 : Value} : ∀ (c m : Nat), m + c = 8 → ev F lv jm_Model_days 10 [.ref 73, .int (nI b), .int D, .int k, .int (nI m), v5] [] (HH (upTo I 92 (fun _ => 0) m) J) = ev F lv jm_Model_days 31 [.ref 73, .int (nI b), .int D, .int k, .int (nI 8), v5] [] (HH (upTo I 92 (fun _ => 0) 8) J) := by
  have e8 : (8 : Int32) = nI 8 := rfl
  intro c
  induction c with
  | zero =>
    intro m hm
    obtain rfl : m = 8 := by omega
    rw [s_Model_days_10]
    simp only [s_Model_days_12, s_Model_days_14, e8, if_pos (nI_le (Nat.le_refl 8) (show 8 < 2 ^ 31 by decide))]
  | succ c ih =>
    intro m hm
    rw [s_Model_days_10]
    simp only [s_Model_days_12, s_Model_days_14, e8, if_neg (nI_ge (show m < 8 by omega) (show 8 < 2 ^ 31 by decide)), s_Model_days_17, s_Model_days_18, s_Model_days_21, s_Model_days_23, s_Model_days_24, s_Model_days_25, s_Model_days_28, g_73_26, p92 (show m < 8 by omega), nI_1]
    rw [upTo_s rfl, ih (m + 1) (by omega)]
theorem md_l1 {D k : Int32} {d : Nat} (h : Rw C a I b n) (hd : C a 4 = nI d) (hd' : d < 2 ^ 20) : ∀ (c m : Nat) (v5 : Value), m + c = 2 * n → ∃ v5', ev F (lv + 3) jm_Model_days 34 [.ref 73, .int (nI b), .int D, .int k, .int (nI m), v5] [] (HH (upTo I 92 (fun j => nI (cntN C a n m j)) 8) J) = ev F (lv + 3) jm_Model_days 87 [.ref 73, .int (nI b), .int D, .int k, .int (nI (2 * n)), v5'] [] (HH (upTo I 92 (fun j => nI (cntN C a n (2 * n) j)) 8) J) := by
  have h1 := h.ba
  have h2 := h.ms
  have e18 : (18 : Int32) = nI 18 := rfl
  intro c
  induction c with
  | zero =>
    intro m v5 hm
    obtain rfl : m = 2 * n := by omega
    have hr := rw_74 (I' := upTo I 92 (fun j => nI (cntN C a n (2 * n) j)) 8) h (upTo_ne (by decide))
    refine ⟨v5, ?_⟩
    rw [s_Model_days_34]
    simp only [s_Model_days_36, s_Model_days_37 rcv_73, s_Model_days_40, men_in hr.nn, Option.bind_some, Option.toList_some, List.cons_append, List.nil_append, if_pos (nI_le (Nat.le_refl (2 * n)) (show 2 * n < 2 ^ 31 by omega))]
  | succ c ih =>
    intro m v5 hm
    have hm' : m < 2 * n := by omega
    have hr := rw_74 (I' := upTo I 92 (fun j => nI (cntN C a n m j)) 8) h (upTo_ne (by decide))
    rw [s_Model_days_34]
    simp only [s_Model_days_36, s_Model_days_37 rcv_73, s_Model_days_40, men_in hr.nn, Option.bind_some, Option.toList_some, List.cons_append, List.nil_append, if_neg (nI_ge hm' (show 2 * n < 2 ^ 31 by omega)), s_Model_days_43, s_Model_days_44, s_Model_days_45, s_Model_days_47 rcv_73, maim_in hr hm' hd hd', s_Model_days_50, s_Model_days_52, s_Model_days_54, s_Model_days_55]
    rcases aim_val (I := C) (a := a) (n := n) (j := m) with q | ⟨t, ht, q⟩
    · simp only [q, if_true, s_Model_days_81, s_Model_days_84, nI_1]
      have e : upTo I 92 (fun j => nI (cntN C a n m j)) 8 = upTo I 92 (fun j => nI (cntN C a n (m + 1) j)) 8 := upTo_congr (fun y hy => by
        show nI (cntN C a n m y) = nI (cntN C a n m y + _)
        rw [q, if_neg (fun w => op_ne (show y < 2 ^ 31 by omega) w.symm), Nat.add_zero])
      rw [e]
      exact ih (m + 1) _ (by omega)
    · have ek : upTo I 92 (fun j => nI (cntN C a n m j)) 8 74 (18 + m) = C (a + 1) m := by rw [upTo_ne (by decide)]; exact h.k hm'
      have ec : upTo I 92 (fun j => nI (cntN C a n m j)) 8 92 t = nI (cntN C a n m t) := upTo_lt (by omega)
      simp only [q, if_neg (op_ne (show t < 2 ^ 31 by omega)), s_Model_days_58, s_Model_days_59, s_Model_days_62, s_Model_days_64, s_Model_days_65, s_Model_days_66, s_Model_days_67, s_Model_days_70, s_Model_days_72, s_Model_days_74, s_Model_days_75, s_Model_days_76, s_Model_days_79, s_Model_days_80, s_Model_days_81, s_Model_days_84, g_73_0, g_73_26, g92 (show t < 8 by omega), ec, e18, nI_add, g74 (show 18 + m < 239 by omega), ek, mhit_eq, Option.bind_some, Option.toList_some, List.cons_append, List.nil_append, p92 (show t < 8 by omega), nI_1]
      have e : up2 (upTo I 92 (fun j => nI (cntN C a n m j)) 8) 92 t (nI (cntN C a n m t) + (if C (a + 1) m = 2 then 2 else 1)) = upTo I 92 (fun j => nI (cntN C a n (m + 1) j)) 8 := by
        apply upTo_put (by omega)
        · show _ = nI (cntN C a n m t + _)
          rw [q, if_pos rfl]
          by_cases w : C (a + 1) m = 2
          · rw [if_pos w, if_pos w]; exact nI_add _ 2
          · rw [if_neg w, if_neg w]; exact nI_add _ 1
        · intro y hy hyt
          show nI (cntN C a n m y) = nI (cntN C a n m y + _)
          rw [q, if_neg (by rw [nI_eq (by omega) (by omega)]; exact fun w => hyt w.symm), Nat.add_zero]
      rw [e]
      exact ih (m + 1) _ (by omega)
theorem md_l2 {D k : Int32} {l : Int64} (h : Rw C a I b n) (hb : b = 0 ∨ 26 ≤ b) (hl : ∀ j, j < 2 * n → ∃ x, x < 256 ∧ I 92 j = nI x ∧ lostB l j = nI x) : ∀ (c m : Nat) (v5 : Value), m + c = 2 * n → ∃ v5', ev F (lv + 3) jm_Model_days 103 [.ref 73, .int (nI b), .int D, .int k, .int (nI m), v5] [] (HH (upF I 74 b (lossB C a l) m) J) = ev F (lv + 3) jm_Model_days 161 [.ref 73, .int (nI b), .int D, .int k, .int (nI (2 * n)), v5'] [] (HH (upF I 74 b (lossB C a l) (2 * n)) J) := by
  have h1 := h.ba
  have h2 := h.ms
  have e0 : nI b + 0 = nI b := nI_add b 0
  intro c
  induction c with
  | zero =>
    intro m v5 hm
    obtain rfl : m = 2 * n := by omega
    refine ⟨v5, ?_⟩
    rw [s_Model_days_103]
    simp only [s_Model_days_105, s_Model_days_106 rcv_73, s_Model_days_109, men_in (rw_upF (g := lossB C a l) h hb (Nat.le_refl (2 * n))).1, Option.bind_some, Option.toList_some, List.cons_append, List.nil_append, if_pos (nI_le (Nat.le_refl (2 * n)) (show 2 * n < 2 ^ 31 by omega))]
  | succ c ih =>
    intro m v5 hm
    have hm' : m < 2 * n := by omega
    obtain ⟨bm, hbm, ebm⟩ := h.wf.bt m hm'
    obtain ⟨x, hx, ex, exl⟩ := hl m hm'
    have er : upF I 74 b (lossB C a l) m 74 (b + m) = nI bm := by rw [upF_out (by omega), h.bt hm', ebm]
    have e9 : upF I 74 b (lossB C a l) m 92 m = nI x := by rw [upF_ne (by decide), ex]
    have eL : lossB C a l m = nI (bm - x) := loss_k hbm ebm hx exl
    rw [s_Model_days_103]
    simp only [s_Model_days_105, s_Model_days_106 rcv_73, s_Model_days_109, men_in (rw_upF (g := lossB C a l) h hb (show m ≤ 2 * n by omega)).1, Option.bind_some, Option.toList_some, List.cons_append, List.nil_append, if_neg (nI_ge hm' (show 2 * n < 2 ^ 31 by omega)), s_Model_days_112, s_Model_days_113, s_Model_days_116, s_Model_days_117, s_Model_days_118, s_Model_days_119, s_Model_days_121, s_Model_days_122, s_Model_days_123, s_Model_days_124, s_Model_days_127, s_Model_days_129, s_Model_days_130, s_Model_days_131, s_Model_days_133, s_Model_days_134, s_Model_days_137, s_Model_days_138, s_Model_days_139, s_Model_days_140, s_Model_days_142, s_Model_days_143, s_Model_days_145, g_73_0, g_73_26, e0, nI_add, g74 (show b + m < 239 by omega), er, g92 (show m < 8 by omega), e9]
    by_cases q : x ≤ bm
    · simp only [pk_sub q, if_pos (nI_pos' (show bm - x < 2 ^ 31 by omega)), s_Model_days_152, s_Model_days_154, s_Model_days_155, s_Model_days_158, p74 (show b + m < 239 by omega), nI_1]
      rw [upF_s eL.symm]
      exact ih (m + 1) _ (by omega)
    · have hn : ¬ (0 : Int32) ≤ nI bm - nI x := by
        have := pk_sneg (a := bm) (b := x) (by omega) (by omega)
        rw [Int32.le_iff_toInt_le]
        rw [Int32.lt_iff_toInt_lt] at this
        have e : (0 : Int32).toInt = 0 := rfl
        omega
      simp only [if_neg hn, s_Model_days_148, s_Model_days_149, s_Model_days_154, s_Model_days_155, s_Model_days_158, p74 (show b + m < 239 by omega), nI_1]
      rw [upF_s (by rw [eL, show bm - x = 0 by omega]; rfl)]
      exact ih (m + 1) _ (by omega)
end Mdl
