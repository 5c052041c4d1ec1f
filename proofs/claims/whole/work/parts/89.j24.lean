/-! ===== keeps: alike ===== -/
section Cal
variable {F : jx_F} {lv : Nat} {I : Nat → Nat → Int32} {J : Nat → Nat → Int64} {n : Nat}
theorem mk_sets {m A q : Nat} {p : Int32} (hR : Rw I 5 I 0 n) (hm : m < 2 * n) (hA : A < 2 ^ (2 * n)) (hq : q ≤ 10) : ∀ (c S : Nat) (v8 v9 v10 : Value), S + c = A + 1 → ∃ w8 w9 w10, ev F (lv + 1) jm_Model_keeps 102 [.ref 73, .int (nI m), .int (nI q), .int p, .int (nI A), .int (nI (sumN (gaN I n m A q) S)), .int (nI (sumN (gbN A q) S)), .int (nI S), v8, v9, v10] [] (HH I J) = ev F (lv + 1) jm_Model_keeps 249 [.ref 73, .int (nI m), .int (nI q), .int p, .int (nI A), .int (nI (sumN (gaN I n m A q) (A + 1))), .int (nI (sumN (gbN A q) (A + 1))), .int (nI (A + 1)), w8, w9, w10] [] (HH I J) := by
  have h4 := hR.ms
  have hA8 : A < 256 := Nat.lt_of_lt_of_le hA (Nat.pow_le_pow_right (by decide) (show 2 * n ≤ 8 by omega))
  have e0 : (0 : Int32) + nI m = nI m := Int32.zero_add _
  have eb : I 74 m = I 7 m := by have := hR.bt hm; rwa [Nat.zero_add] at this
  intro c
  induction c with
  | zero =>
    intro S v8 v9 v10 hS
    obtain rfl : S = A + 1 := by omega
    refine ⟨v8, v9, v10, ?_⟩
    rw [s_Model_keeps_102]
    simp only [s_Model_keeps_104, s_Model_keeps_106, if_pos (nI_lt (show A < A + 1 by omega) (show A + 1 < 2 ^ 31 by omega))]
  | succ c ih =>
    intro S v8 v9 v10 hS
    have hS8 : S < 256 := by omega
    rw [s_Model_keeps_102]
    simp only [s_Model_keeps_104, s_Model_keeps_106, if_neg (nI_nlt (show S ≤ A by omega) (show A < 2 ^ 31 by omega)), s_Model_keeps_109, s_Model_keeps_111, s_Model_keeps_113, s_Model_keeps_114, s_Model_keeps_115, s_Model_keeps_116]
    by_cases w : subK S A 8 = true
    · have hSn : S < 2 ^ (2 * n) := by have := sub_le hS8 hA8 w; omega
      have l := mk_in (F := F) (lv := lv) (J := J) (m := m) (p := p) (x5 := nI (sumN (gaN I n m A q) S)) (x6 := nI (sumN (gbN A q) S)) hR hA hS8 hq w (2 * n) 0 0 (by omega)
      rw [tw_cut (show 2 * n ≤ 8 by omega) hA hSn] at l
      have ga : sumN (gaN I n m A q) (S + 1) = sumN (gaN I n m A q) S + (if I 7 m ≤ fold2 (htsF I 5 (nI S)) 0 (2 * n) 0 then 0 else twN (10 - q) q A S 8) := by
        show sumN (gaN I n m A q) S + gaN I n m A q S = _
        rw [show gaN I n m A q S = (if I 7 m ≤ fold2 (htsF I 5 (nI S)) 0 (2 * n) 0 then 0 else twN (10 - q) q A S 8) by unfold gaN; rw [if_pos w]]
      have gb : sumN (gbN A q) (S + 1) = sumN (gbN A q) S + twN (10 - q) q A S 8 := by
        show sumN (gbN A q) S + gbN A q S = _
        rw [show gbN A q S = twN (10 - q) q A S 8 by unfold gbN; rw [if_pos w]]
      have i1 := fun v8 v9 v10 => ih (S + 1) v8 v9 v10 (by omega)
      rw [ga, gb] at i1
      simp only [if_pos ((sub_iff hS8 hA8).2 w), s_Model_keeps_119, s_Model_keeps_120, s_Model_keeps_122, s_Model_keeps_123, s_Model_keeps_125, s_Model_keeps_126]
      rw [show ev F (lv + 1) jm_Model_keeps 128 [.ref 73, .int (nI m), .int (nI q), .int p, .int (nI A), .int (nI (sumN (gaN I n m A q) S)), .int (nI (sumN (gbN A q) S)), .int (nI S), .int 1, .int 0, .int 0] [] (HH I J) = _ from l]
      generalize twN (10 - q) q A S 8 = T at i1 ⊢
      generalize fold2 (htsF I 5 (nI S)) 0 (2 * n) 0 = hi at i1 ⊢
      simp only [s_Model_keeps_212, s_Model_keeps_214, s_Model_keeps_216, s_Model_keeps_217, s_Model_keeps_220, s_Model_keeps_221, s_Model_keeps_222, e0, s_Model_keeps_223, g_73_0, g74 (show m < 239 by omega), eb, s_Model_keeps_224]
      by_cases w2 : I 7 m ≤ hi
      · rw [if_pos w2, Nat.add_zero] at i1
        simp only [if_pos w2, s_Model_keeps_232, s_Model_keeps_233, Int32.add_zero, s_Model_keeps_234, s_Model_keeps_236, s_Model_keeps_238, s_Model_keeps_240, nI_add, s_Model_keeps_241, s_Model_keeps_243, s_Model_keeps_246, nI_1]
        exact i1 _ _ _
      · rw [if_neg w2] at i1
        simp only [if_neg w2, s_Model_keeps_227, s_Model_keeps_229, s_Model_keeps_233, nI_add, s_Model_keeps_234, s_Model_keeps_236, s_Model_keeps_238, s_Model_keeps_240, s_Model_keeps_241, s_Model_keeps_243, s_Model_keeps_246, nI_1]
        exact i1 _ _ _
    · have ga : sumN (gaN I n m A q) (S + 1) = sumN (gaN I n m A q) S := by
        show sumN (gaN I n m A q) S + gaN I n m A q S = _
        rw [show gaN I n m A q S = 0 by unfold gaN; rw [if_neg w]]; rfl
      have gb : sumN (gbN A q) (S + 1) = sumN (gbN A q) S := by
        show sumN (gbN A q) S + gbN A q S = _
        rw [show gbN A q S = 0 by unfold gbN; rw [if_neg w]]; rfl
      have i1 := fun v8 v9 v10 => ih (S + 1) v8 v9 v10 (by omega)
      rw [ga, gb] at i1
      simp only [if_neg (fun e => w ((sub_iff hS8 hA8).1 e)), s_Model_keeps_243, s_Model_keeps_246, nI_1]
      exact i1 _ _ _
theorem mk_gcd {x1 x2 x3 x4 x5 x6 : Int32} : ∀ (N x y : Nat) (v9 v10 : Value), y < N → x < 2 ^ 31 → y < 2 ^ 31 → ∃ w9 w10, ev F lv jm_Model_keeps 257 [.ref 73, .int x1, .int x2, .int x3, .int x4, .int x5, .int x6, .int (nI x), .int (nI y), v9, v10] [] (HH I J) = ev F lv jm_Model_keeps 280 [.ref 73, .int x1, .int x2, .int x3, .int x4, .int x5, .int x6, .int (nI (Nat.gcd x y)), .int (nI 0), w9, w10] [] (HH I J) := by
  intro N
  induction N with
  | zero => intro x y v9 v10 h; omega
  | succ N ih =>
    intro x y v9 v10 h hx hy
    by_cases q : y = 0
    · subst q
      refine ⟨v9, v10, ?_⟩
      rw [s_Model_keeps_257, Nat.gcd_zero_right]
      simp only [s_Model_keeps_259, if_pos (show nI 0 = (0 : Int32) from rfl)]
    · have hr : x % y < y := Nat.mod_lt _ (by omega)
      obtain ⟨w9, w10, e⟩ := ih y (x % y) (.int (nI (x % y))) v10 (by omega) hy (by omega)
      rw [Nat.gcd_comm y, ← Nat.gcd_rec, Nat.gcd_comm] at e
      refine ⟨w9, w10, ?_⟩
      rw [s_Model_keeps_257]
      simp only [s_Model_keeps_259, if_neg (nI_ne0 (show 0 < y by omega) hy), s_Model_keeps_262, s_Model_keeps_264, s_Model_keeps_266, pk_rem hx (show 0 < y by omega) hy, s_Model_keeps_267, s_Model_keeps_269, s_Model_keeps_271, s_Model_keeps_273, s_Model_keeps_275, s_Model_keeps_277]
      exact e
theorem st_keeps (h : Inv I J) (x y z : Int32) : Alk F lv 81 155 [.int x, .int y, .int z] I J := by
  obtain ⟨n, ⟨hR, d, hd, ed⟩, _, _⟩ := h.2.2.2.2.2
  have h4 := hR.ms
  have hM := hR.wf.mn
  have i10' : ∀ (h : jx_H) (x : Int32), rn F (lv + 9) 103 [.long x.toInt64, .long 0, .long 10] h = some (some (.int (if x < 0 then 0 else if 10 < x then 0 else 1)), h) := fun h x => in_int (lo := 0) (hi := 10)
  have i1' : ∀ (h : jx_H) (x : Int32), rn F (lv + 9) 103 [.long x.toInt64, .long 0, .long 1] h = some (some (.int (if x < 0 then 0 else if 1 < x then 0 else 1)), h) := fun h x => in_int (lo := 0) (hi := 1)
  rcases man_cases h4 x with q | ⟨m, hm, rfl⟩
  · refine ⟨-2, I, I, J, ?_, ?_, h⟩
    · simp only [e_Main_keeps, s_Main_keeps_0, s_Main_keeps_1, s_Main_keeps_4, s_Main_keeps_5 (ar_rcv ar_5), s_Main_keeps_8, s_Main_keeps_11, s_Main_keeps_13, g_0_1, has_no ar_5 hM q, Option.bind_some, Option.toList_some, Option.toList_none, List.cons_append, List.nil_append, i10, i01, if_false, if_true, nI_add, nI_1]
    · simp only [e_Model_keeps, s_Model_keeps_0, s_Model_keeps_1, s_Model_keeps_2 rcv_73, s_Model_keeps_5, s_Model_keeps_8, s_Model_keeps_10, isMan_no hR.nn h4 q, Option.bind_some, Option.toList_some, Option.toList_none, List.cons_append, List.nil_append, i10, i01, if_false, if_true, nI_add, nI_1]
  have c1 := has_in (F := F) (lv := lv + 9) (J := J) ar_5 hM hm
  have c2 := isMan_yes (F := F) (lv := lv + 8) (J := J) hR.nn h4 hm
  by_cases y1 : y < 0
  · refine ⟨-3, I, I, J, ?_, ?_, h⟩
    · simp only [e_Main_keeps, s_Main_keeps_0, s_Main_keeps_1, s_Main_keeps_4, s_Main_keeps_5 (ar_rcv ar_5), s_Main_keeps_8, g_0_1, c1, Option.bind_some, Option.toList_some, Option.toList_none, List.cons_append, List.nil_append, i10, i01, if_false, if_true, nI_add, nI_1, s_Main_keeps_14, s_Main_keeps_15, if_pos y1, s_Main_keeps_33, s_Main_keeps_35]
    · simp only [e_Model_keeps, s_Model_keeps_0, s_Model_keeps_1, s_Model_keeps_2 rcv_73, s_Model_keeps_5, c2, Option.bind_some, Option.toList_some, Option.toList_none, List.cons_append, List.nil_append, i10, i01, if_false, if_true, nI_add, nI_1, s_Model_keeps_11, s_Model_keeps_12, s_Model_keeps_13, s_Model_keeps_14, s_Model_keeps_17, i10', if_pos y1, s_Model_keeps_20, s_Model_keeps_33, s_Model_keeps_35]
  by_cases y2 : (10 : Int32) < y
  · refine ⟨-3, I, I, J, ?_, ?_, h⟩
    · simp only [e_Main_keeps, s_Main_keeps_0, s_Main_keeps_1, s_Main_keeps_4, s_Main_keeps_5 (ar_rcv ar_5), s_Main_keeps_8, g_0_1, c1, Option.bind_some, Option.toList_some, Option.toList_none, List.cons_append, List.nil_append, i10, i01, if_false, if_true, nI_add, nI_1, s_Main_keeps_14, s_Main_keeps_15, if_neg y1, s_Main_keeps_18, s_Main_keeps_19, s_Main_keeps_21, if_pos y2, s_Main_keeps_33, s_Main_keeps_35]
    · simp only [e_Model_keeps, s_Model_keeps_0, s_Model_keeps_1, s_Model_keeps_2 rcv_73, s_Model_keeps_5, c2, Option.bind_some, Option.toList_some, Option.toList_none, List.cons_append, List.nil_append, i10, i01, if_false, if_true, nI_add, nI_1, s_Model_keeps_11, s_Model_keeps_12, s_Model_keeps_13, s_Model_keeps_14, s_Model_keeps_17, i10', if_neg y1, if_pos y2, s_Model_keeps_20, s_Model_keeps_33, s_Model_keeps_35]
  rcases side_cases z with w | w
  · refine ⟨-3, I, I, J, ?_, ?_, h⟩
    · by_cases z1 : z < 0
      · simp only [e_Main_keeps, s_Main_keeps_0, s_Main_keeps_1, s_Main_keeps_4, s_Main_keeps_5 (ar_rcv ar_5), s_Main_keeps_8, g_0_1, c1, Option.bind_some, Option.toList_some, Option.toList_none, List.cons_append, List.nil_append, i10, i01, if_false, if_true, nI_add, nI_1, s_Main_keeps_14, s_Main_keeps_15, if_neg y1, s_Main_keeps_18, s_Main_keeps_19, s_Main_keeps_21, if_neg y2, s_Main_keeps_24, s_Main_keeps_25, if_pos z1, s_Main_keeps_33, s_Main_keeps_35]
      · have z2 : (1 : Int32) < z := by
          rcases w with w | w
          · exact absurd w z1
          · exact w
        simp only [e_Main_keeps, s_Main_keeps_0, s_Main_keeps_1, s_Main_keeps_4, s_Main_keeps_5 (ar_rcv ar_5), s_Main_keeps_8, g_0_1, c1, Option.bind_some, Option.toList_some, Option.toList_none, List.cons_append, List.nil_append, i10, i01, if_false, if_true, nI_add, nI_1, s_Main_keeps_14, s_Main_keeps_15, if_neg y1, s_Main_keeps_18, s_Main_keeps_19, s_Main_keeps_21, if_neg y2, s_Main_keeps_24, s_Main_keeps_25, if_neg z1, s_Main_keeps_28, s_Main_keeps_29, s_Main_keeps_30, ifle, if_pos z2, s_Main_keeps_33, s_Main_keeps_35]
    · have e : (if z < 0 then (0 : Int32) else if 1 < z then 0 else 1) = 0 := by
        by_cases z1 : z < 0
        · rw [if_pos z1]
        · rcases w with w | w
          · exact absurd w z1
          · rw [if_neg z1, if_pos w]
      simp only [e_Model_keeps, s_Model_keeps_0, s_Model_keeps_1, s_Model_keeps_2 rcv_73, s_Model_keeps_5, c2, Option.bind_some, Option.toList_some, Option.toList_none, List.cons_append, List.nil_append, i10, i01, if_false, if_true, nI_add, nI_1, s_Model_keeps_11, s_Model_keeps_12, s_Model_keeps_13, s_Model_keeps_14, s_Model_keeps_17, i10', if_neg y1, if_neg y2, s_Model_keeps_20, s_Model_keeps_23, s_Model_keeps_24, s_Model_keeps_25, s_Model_keeps_26, s_Model_keeps_27, i1', e, s_Model_keeps_30, s_Model_keeps_33, s_Model_keeps_35]
  have z0 : ¬ z < 0 ∧ ¬ (1 : Int32) < z := by
    rcases w with rfl | rfl
    · exact ⟨by decide, by decide⟩
    · exact ⟨by decide, by decide⟩
  have ze : (if z < 0 then (0 : Int32) else if 1 < z then 0 else 1) = 1 := by rw [if_neg z0.1, if_neg z0.2]
  obtain ⟨qq, hq, rfl⟩ : ∃ j : Nat, j ≤ 10 ∧ y = nI j := nI_of2 (M := 10) rfl y1 (Int32.not_lt.1 y2)
  obtain ⟨bm, hb, eb⟩ := hR.wf.bt m hm
  have eb7 : I 7 m = nI bm := eb
  have hh := home_in (F := F) (lv := lv + 8) (J := J) ar_5 hM hm
  rw [show (5 + 2 : Nat) = 7 from rfl, eb7] at hh
  have ho := out_in (F := F) (lv := lv + 9) (J := J) hR hm
  rw [show nI 0 = (0 : Int32) from rfl, show (5 + 2 : Nat) = 7 from rfl, eb7] at ho
  simp only [nI_le0 (show bm < 2 ^ 31 by omega)] at ho
  by_cases b0 : nI bm = (0 : Int32)
  · rw [if_pos b0] at hh ho
    refine ⟨-4, I, I, J, ?_, ?_, h⟩
    · simp only [e_Main_keeps, s_Main_keeps_0, s_Main_keeps_1, s_Main_keeps_4, s_Main_keeps_5 (ar_rcv ar_5), s_Main_keeps_8, g_0_1, c1, Option.bind_some, Option.toList_some, Option.toList_none, List.cons_append, List.nil_append, i10, i01, if_false, if_true, nI_add, nI_1, s_Main_keeps_14, s_Main_keeps_15, if_neg y1, s_Main_keeps_18, s_Main_keeps_19, s_Main_keeps_21, if_neg y2, s_Main_keeps_24, s_Main_keeps_25, if_neg z0.1, s_Main_keeps_28, s_Main_keeps_29, s_Main_keeps_30, ifle, if_neg z0.2, s_Main_keeps_36, s_Main_keeps_37, s_Main_keeps_40, s_Main_keeps_41 (ar_rcv ar_5), hh, s_Main_keeps_44, s_Main_keeps_47, s_Main_keeps_49]
    · simp only [e_Model_keeps, s_Model_keeps_0, s_Model_keeps_1, s_Model_keeps_2 rcv_73, s_Model_keeps_5, c2, Option.bind_some, Option.toList_some, Option.toList_none, List.cons_append, List.nil_append, i10, i01, if_false, if_true, nI_add, nI_1, s_Model_keeps_11, s_Model_keeps_12, s_Model_keeps_13, s_Model_keeps_14, s_Model_keeps_17, i10', if_neg y1, if_neg y2, s_Model_keeps_20, s_Model_keeps_23, s_Model_keeps_24, s_Model_keeps_25, s_Model_keeps_26, s_Model_keeps_27, i1', ze, s_Model_keeps_30, s_Model_keeps_36, s_Model_keeps_37, s_Model_keeps_38, s_Model_keeps_39 rcv_73, ho, s_Model_keeps_42, s_Model_keeps_45, s_Model_keeps_47]
  rw [if_neg b0] at hh ho
  -- the aimers
  have ea := aat_bN (I := I) (n := n) (a := 5) (x := nI m) (2 * n) (by omega)
  have hA : bN (fun j => decide (aimF I 5 n j = nI m)) (2 * n) < 2 ^ (2 * n) := bN_lt (2 * n)
  generalize bN (fun j => decide (aimF I 5 n j = nI m)) (2 * n) = A at ea hA
  have hA8 : A < 256 := Nat.lt_of_lt_of_le hA (Nat.pow_le_pow_right (by decide) (show 2 * n ≤ 8 by omega))
  have aa := aat_in (F := F) (lv := lv + 5) (J := J) (x := nI m) ar_5 hM
  rw [ea] at aa
  have wy := way_in (F := F) (lv := lv + 7) (J := J) (A := nI A) (q := nI qq) ar_5 hM hm
  rw [way_sum hA8 hq] at wy
  -- what there is above and below
  have gb := gb_sum (A := A) hq
  have cutA : sumN (gaN I n m A qq) (A + 1) = sumN (gaN I n m A qq) 256 := sum_cut hA8 (fun S h1 h2 => by
    unfold gaN; rw [if_neg (fun e => by have := sub_le h2 hA8 e; omega)])
  have cutB : sumN (gbN A qq) (A + 1) = sumN (gbN A qq) 256 := sum_cut hA8 (fun S h1 h2 => by
    unfold gbN; rw [if_neg (fun e => by have := sub_le h2 hA8 e; omega)])
  have hle : sumN (gaN I n m A qq) 256 ≤ 10 ^ pcK A 8 := by
    rw [← gb]
    refine sumN_le 256 (fun S _ => ?_)
    unfold gaN gbN
    split
    · split
      · exact Nat.zero_le _
      · exact Nat.le_refl _
    · exact Nat.le_refl _
  have hv : 10 ^ pcK A 8 ≤ 10 ^ 8 := Nat.pow_le_pow_right (by decide) (pc_le 8)
  have hv0 : 0 < 10 ^ pcK A 8 := Nat.pow_pos (by decide)
  have l1 := ten_loop (F := F) (lv := lv + 9) (I := I) (J := J) (m := nI m) (q := nI qq) (p := z) (x5 := nI (sumN (gaN I n m A qq) 256)) hA8 (pcK A 8) 0 (by omega)
  obtain ⟨w8, w9, w10, l3⟩ := mk_sets (F := F) (lv := lv + 9) (J := J) (p := z) hR hm hA hq (A + 1) 0 jx_junk jx_junk jx_junk (by omega)
  rw [cutA, cutB, gb] at l3
  have l2 := mk_at (F := F) (lv := lv + 7) (J := J) (m := m) (q := nI qq) (p := z) hR ed (show d < 2 ^ 20 by omega) (2 * n) 0 0 (by omega)
  rw [ea] at l2
  generalize sumN (gaN I n m A qq) 256 = u at wy hle l1 l3
  generalize 10 ^ pcK A 8 = v at hle hv hv0 l1 l3
  have hu31 : u < 2 ^ 31 := by omega
  have hv31 : v < 2 ^ 31 := by omega
  obtain ⟨g9, g10, l4⟩ := mk_gcd (F := F) (lv := lv + 10) (I := I) (J := J) (x1 := nI m) (x2 := nI qq) (x3 := z) (x4 := nI A) (x5 := nI u) (x6 := nI v) (v + 1) u v w9 w10 (by omega) hu31 hv31
  have cdv := cd_in (F := F) (lv := lv + 9) (h := HH I J) hu31 hv31
  rw [Nat.gcd_comm v u] at cdv
  have hg0 : 0 < Nat.gcd u v := Nat.gcd_pos_of_pos_right _ hv0
  have hg31 : Nat.gcd u v < 2 ^ 31 := Nat.lt_of_le_of_lt (Nat.gcd_le_right _ hv0) hv31
  generalize Nat.gcd u v = g at l4 cdv hg0 hg31
  have mx : (if (1 : Int32) < nI g then nI g else 1) = nI g := by
    by_cases e : g = 1
    · subst e; rfl
    · rw [if_pos]; rw [show (1 : Int32) = nI 1 from rfl]; exact nI_lt (by omega) hg31
  have g0 := nI_ne0 hg0 hg31
  have run1 : ∀ y : Int32, ev F (lv + 10) jm_Main_keeps 111 [.ref 0, .int (nI m), .int (nI qq), .int z, .int (nI A), .int (nI u), .int (nI v), .int (nI g)] [] (HH I J) = some (some (.int y), HH I J) → rn F (lv + 10) 81 [.ref 0, .int (nI m), .int (nI qq), .int z] (HH I J) = some (some (.int y), HH I J) := by
    intro y hy
    simp only [e_Main_keeps, s_Main_keeps_0, s_Main_keeps_1, s_Main_keeps_4, s_Main_keeps_5 (ar_rcv ar_5), s_Main_keeps_8, g_0_1, c1, Option.bind_some, Option.toList_some, Option.toList_none, List.cons_append, List.nil_append, i10, i01, if_false, if_true, nI_add, nI_1, s_Main_keeps_14, s_Main_keeps_15, if_neg y1, s_Main_keeps_18, s_Main_keeps_19, s_Main_keeps_21, if_neg y2, s_Main_keeps_24, s_Main_keeps_25, if_neg z0.1, s_Main_keeps_28, s_Main_keeps_29, s_Main_keeps_30, ifle, if_neg z0.2, s_Main_keeps_36, s_Main_keeps_37, s_Main_keeps_40, s_Main_keeps_41 (ar_rcv ar_5), hh, s_Main_keeps_44, s_Main_keeps_50, s_Main_keeps_51, s_Main_keeps_54, s_Main_keeps_55 (ar_rcv ar_5), aa, s_Main_keeps_58, s_Main_keeps_60, s_Main_keeps_61, s_Main_keeps_64, s_Main_keeps_65, s_Main_keeps_67, s_Main_keeps_68 (ar_rcv ar_5), wy, s_Main_keeps_71, s_Main_keeps_73, s_Main_keeps_74, s_Main_keeps_76, s_Main_keeps_77]
    refine Eq.trans l1 ?_
    simp only [s_Main_keeps_102, s_Main_keeps_104, s_Main_keeps_106, cdv, Option.bind_some, Option.toList_some, Option.toList_none, List.cons_append, List.nil_append, i10, i01, if_false, if_true, nI_add, nI_1, s_Main_keeps_109]
    exact hy
  have run2 : ∀ y : Int32, ev F (lv + 10) jm_Model_keeps 280 [.ref 73, .int (nI m), .int (nI qq), .int z, .int (nI A), .int (nI u), .int (nI v), .int (nI g), .int (nI 0), g9, g10] [] (HH I J) = some (some (.int y), HH I J) → rn F (lv + 10) 155 [.ref 73, .int (nI m), .int (nI qq), .int z] (HH I J) = some (some (.int y), HH I J) := by
    intro y hy
    simp only [e_Model_keeps, s_Model_keeps_0, s_Model_keeps_1, s_Model_keeps_2 rcv_73, s_Model_keeps_5, c2, Option.bind_some, Option.toList_some, Option.toList_none, List.cons_append, List.nil_append, i10, i01, if_false, if_true, nI_add, nI_1, s_Model_keeps_11, s_Model_keeps_12, s_Model_keeps_13, s_Model_keeps_14, s_Model_keeps_17, i10', if_neg y1, if_neg y2, s_Model_keeps_20, s_Model_keeps_23, s_Model_keeps_24, s_Model_keeps_25, s_Model_keeps_26, s_Model_keeps_27, i1', ze, s_Model_keeps_30, s_Model_keeps_36, s_Model_keeps_37, s_Model_keeps_38, s_Model_keeps_39 rcv_73, ho, s_Model_keeps_42, s_Model_keeps_48, s_Model_keeps_49, s_Model_keeps_51, s_Model_keeps_52]
    refine Eq.trans l2 ?_
    simp only [s_Model_keeps_93, s_Model_keeps_94, s_Model_keeps_96, s_Model_keeps_97, s_Model_keeps_99, s_Model_keeps_100]
    refine Eq.trans l3 ?_
    simp only [s_Model_keeps_249, s_Model_keeps_251, s_Model_keeps_253, s_Model_keeps_255]
    exact l4.trans hy
  rcases w with rfl | rfl
  · refine ⟨nI u / nI g, I, I, J, run1 _ ?_, run2 _ ?_, h⟩
    · simp only [s_Main_keeps_111, s_Main_keeps_112, if_true, s_Main_keeps_115, s_Main_keeps_117, s_Main_keeps_122, s_Main_keeps_123, s_Main_keeps_125, mx, s_Main_keeps_128, if_neg g0, s_Main_keeps_129]
    · simp only [s_Model_keeps_280, s_Model_keeps_281, if_true, s_Model_keeps_284, s_Model_keeps_286, s_Model_keeps_288, if_neg g0, s_Model_keeps_289, s_Model_keeps_297]
  · refine ⟨nI v / nI g, I, I, J, run1 _ ?_, run2 _ ?_, h⟩
    · simp only [s_Main_keeps_111, s_Main_keeps_112, if_neg (show ¬ (1 : Int32) = 0 by decide), s_Main_keeps_120, s_Main_keeps_122, s_Main_keeps_123, s_Main_keeps_125, mx, s_Main_keeps_128, if_neg g0, s_Main_keeps_129]
    · simp only [s_Model_keeps_280, s_Model_keeps_281, if_neg (show ¬ (1 : Int32) = 0 by decide), s_Model_keeps_292, s_Model_keeps_294, s_Model_keeps_296, if_neg g0, s_Model_keeps_297]
end Cal
