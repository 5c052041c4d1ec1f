/-! ===== ask ===== -/
section Cal
variable {F : jx_F} {lv : Nat} {I : Nat → Nat → Int32} {J : Nat → Nat → Int64}
theorem mask_l1 {h : jx_H} {p k : Nat} {be le d mo : Int32} (hp : p < 256) (hk : k < 5) : ∀ (c o : Nat) (sa : Int32), o + c = 5 → ev F (lv + 1) jm_Model_ask 39 [.ref 73, .int (nI p), .int be, .int le, .int d, .int mo, .int (nI k), .int sa, .int (nI o)] [] h = ev F (lv + 1) jm_Model_ask 96 [.ref 73, .int (nI p), .int be, .int le, .int d, .int mo, .int (nI k), .int (fold2 (smF p k d) o c sa), .int (nI 5)] [] h := by
  have e5 : (5 : Int32) = nI 5 := rfl
  intro c
  induction c with
  | zero =>
    intro o sa ho
    obtain rfl : o = 5 := by omega
    rw [s_Model_ask_39]
    simp only [s_Model_ask_41, s_Model_ask_42, e5, if_pos (nI_le (Nat.le_refl 5) (show 5 < 2 ^ 31 by decide)), fold2]
  | succ c ih =>
    intro o sa ho
    rw [s_Model_ask_39]
    simp only [s_Model_ask_41, s_Model_ask_42, e5, if_neg (nI_ge (show o < 5 by omega) (show 5 < 2 ^ 31 by decide)), s_Model_ask_45, s_Model_ask_47, s_Model_ask_48, s_Model_ask_50, s_Model_ask_53, mhas_in hp (show k < 8 by omega), Option.bind_some, Option.toList_some, List.cons_append, List.nil_append, fold2, smF]
    by_cases q1 : (if p / 2 ^ k % 2 = 1 then (1 : Int32) else 0) = 0
    · simp only [if_pos q1, s_Model_ask_86, s_Model_ask_87, s_Model_ask_88, s_Model_ask_90, s_Model_ask_93, nI_1]
      exact ih (o + 1) _ (by omega)
    · simp only [if_neg q1, s_Model_ask_56, s_Model_ask_57, s_Model_ask_59, s_Model_ask_62, mhas_in hp (show o < 8 by omega), Option.bind_some, Option.toList_some, List.cons_append, List.nil_append]
      by_cases q2 : (if p / 2 ^ o % 2 = 1 then (1 : Int32) else 0) = 0
      · simp only [if_pos q2, s_Model_ask_86, s_Model_ask_87, s_Model_ask_88, s_Model_ask_90, s_Model_ask_93, nI_1]
        exact ih (o + 1) _ (by omega)
      · simp only [if_neg q2, s_Model_ask_65, s_Model_ask_67, s_Model_ask_69, s_Model_ask_72, s_Model_ask_74, s_Model_ask_76, s_Model_ask_79, maby_in hk, maby_in (show o < 5 by omega), Option.bind_some, Option.toList_some, List.cons_append, List.nil_append]
        by_cases q3 : sigK (nI k) d = sigK (nI o) d
        · simp only [if_pos q3, s_Model_ask_82, s_Model_ask_83, s_Model_ask_87, s_Model_ask_88, s_Model_ask_90, s_Model_ask_93, nI_1]
          exact ih (o + 1) _ (by omega)
        · simp only [if_neg q3, s_Model_ask_86, s_Model_ask_87, s_Model_ask_88, s_Model_ask_90, s_Model_ask_93, nI_1]
          exact ih (o + 1) _ (by omega)
theorem mask_l2 {h : jx_H} {p : Nat} {be le d : Int32} (hp : p < 256) : ∀ (c k : Nat) (mo : Int32) (v7 v8 : Value), k + c = 5 → ∃ w7 w8, ev F (lv + 1) jm_Model_ask 27 [.ref 73, .int (nI p), .int be, .int le, .int d, .int mo, .int (nI k), v7, v8] [] h = ev F (lv + 1) jm_Model_ask 118 [.ref 73, .int (nI p), .int be, .int le, .int d, .int (fold2 (msF p d) k c mo), .int (nI 5), w7, w8] [] h := by
  have e5 : (5 : Int32) = nI 5 := rfl
  intro c
  induction c with
  | zero =>
    intro k mo v7 v8 hk
    obtain rfl : k = 5 := by omega
    refine ⟨v7, v8, ?_⟩
    rw [s_Model_ask_27]
    simp only [s_Model_ask_29, s_Model_ask_30, e5, if_pos (nI_le (Nat.le_refl 5) (show 5 < 2 ^ 31 by decide)), fold2]
  | succ c ih =>
    intro k mo v7 v8 hk
    have l := mask_l1 (F := F) (lv := lv) (h := h) (be := be) (le := le) (d := d) (mo := mo) hp (show k < 5 by omega) 5 0 0 (by omega)
    rw [s_Model_ask_27]
    simp only [s_Model_ask_29, s_Model_ask_30, e5, if_neg (nI_ge (show k < 5 by omega) (show 5 < 2 ^ 31 by decide)), s_Model_ask_33, s_Model_ask_34, s_Model_ask_36, s_Model_ask_37]
    have ef : fold2 (msF p d) k (c + 1) mo = fold2 (msF p d) (k + 1) c (if fold2 (smF p k d) 0 5 0 ≤ mo then mo else fold2 (smF p k d) 0 5 0) := rfl
    have e0 : (0 : Int32) = nI 0 := rfl
    rw [ef]
    refine Exists.imp (fun w7 => Exists.imp (fun w8 e => Eq.trans l e)) ?_
    generalize fold2 (smF p k d) 0 5 0 = S
    simp only [s_Model_ask_96, s_Model_ask_98, s_Model_ask_100]
    by_cases q : S ≤ mo
    · simp only [if_pos q, s_Model_ask_108, s_Model_ask_110, s_Model_ask_112, s_Model_ask_115, nI_1]
      exact ih (k + 1) _ _ _ (by omega)
    · simp only [if_neg q, s_Model_ask_103, s_Model_ask_105, s_Model_ask_110, s_Model_ask_112, s_Model_ask_115, nI_1]
      exact ih (k + 1) _ _ _ (by omega)
theorem mask_l3 {h : jx_H} {p : Nat} {be le d : Int32} (hp : p < 256) (hd : d < 2) (v5 v6 v7 v8 : Value) : ∃ w5 w6 w7 w8, ev F (lv + 1) jm_Model_ask 15 [.ref 73, .int (nI p), .int be, .int le, .int d, v5, v6, v7, v8] [] h = ev F (lv + 1) jm_Model_ask 15 [.ref 73, .int (nI p), .int (if le ≤ fold2 (msF p d) 0 5 0 then be else d), .int (if le ≤ fold2 (msF p d) 0 5 0 then le else fold2 (msF p d) 0 5 0), .int (d + 1), w5, w6, w7, w8] [] h := by
  obtain ⟨w7, w8, l⟩ := mask_l2 (F := F) (lv := lv) (h := h) (be := be) (le := le) (d := d) hp 5 0 0 v7 v8 (by omega)
  refine ⟨.int (fold2 (msF p d) 0 5 0), .int (nI 5), w7, w8, ?_⟩
  rw [s_Model_ask_15]
  simp only [s_Model_ask_17, s_Model_ask_18, ifle, if_pos hd, s_Model_ask_21, s_Model_ask_22, s_Model_ask_24, s_Model_ask_25]
  refine Eq.trans l ?_
  by_cases q : le ≤ fold2 (msF p d) 0 5 0
  · simp only [s_Model_ask_118, s_Model_ask_120, s_Model_ask_121, if_pos q, s_Model_ask_129, s_Model_ask_130, s_Model_ask_131, s_Model_ask_133, s_Model_ask_134, s_Model_ask_142, s_Model_ask_143, s_Model_ask_144, s_Model_ask_147, if_neg (Int32.not_lt.2 q)]
  · simp only [s_Model_ask_118, s_Model_ask_120, s_Model_ask_121, if_neg q, s_Model_ask_124, s_Model_ask_126, s_Model_ask_130, s_Model_ask_131, s_Model_ask_133, s_Model_ask_134, s_Model_ask_137, s_Model_ask_139, s_Model_ask_143, s_Model_ask_144, s_Model_ask_147, if_pos (Int32.not_le.1 q)]
theorem mask_in {p n : Nat} (hp : p < 32) (hn : n ≤ 6) (e2 : I 73 5 = nI n) (e3 : ∀ k, k < n → I 64 k = I 77 k ∧ I 65 k = 10 * I 78 k + I 79 k) (ep : fold2 (posF I n) 0 5 0 = nI p) : rn F (lv + 2) 160 [.ref 73] (HH I J) = some (some (.int (askM p)), HH I J) := by
  have k1 := mkin_in (F := F) (lv := lv) (J := J) hn e2 e3
  rw [ep] at k1
  obtain ⟨a5, a6, a7, a8, l1⟩ := mask_l3 (F := F) (lv := lv + 1) (h := HH I J) (p := p) (be := -1) (le := fold2 (bitF (nI p)) 0 8 0) (d := 0) (by omega) (by decide) jx_junk jx_junk jx_junk jx_junk
  obtain ⟨b5, b6, b7, b8, l2⟩ := mask_l3 (F := F) (lv := lv + 1) (h := HH I J) (p := p) (be := if fold2 (bitF (nI p)) 0 8 0 ≤ fold2 (msF p 0) 0 5 0 then -1 else 0) (le := if fold2 (bitF (nI p)) 0 8 0 ≤ fold2 (msF p 0) 0 5 0 then fold2 (bitF (nI p)) 0 8 0 else fold2 (msF p 0) 0 5 0) (d := 0 + 1) (by omega) (by decide) a5 a6 a7 a8
  simp only [e_Model_ask, s_Model_ask_0, s_Model_ask_1 rcv_73, k1, Option.bind_some, Option.toList_some, List.cons_append, List.nil_append, s_Model_ask_4, s_Model_ask_5, s_Model_ask_6, s_Model_ask_7, s_Model_ask_8, mbits_in, s_Model_ask_11, s_Model_ask_12, s_Model_ask_13]
  refine Eq.trans l1 (Eq.trans l2 ?_)
  rw [s_Model_ask_15]
  simp only [s_Model_ask_17, s_Model_ask_18, if_pos (show (2 : Int32) ≤ 0 + 1 + 1 by decide), s_Model_ask_150, s_Model_ask_151, askM]
  rfl
theorem st_ask (h : Inv I J) : Alk F lv 85 160 [] I J := by
  obtain ⟨c, hc, e1, e2, e3⟩ := h.2.1
  have ep := pos_bN (I := I) (n := c) 5 (by omega)
  have hp : bN (fun k => decide (¬ fitB I (nI k) 0 c = 0)) 5 < 32 := bN_lt 5
  refine ⟨askM (bN (fun k => decide (¬ fitB I (nI k) 0 c = 0)) 5), I, I, J, ?_, mask_in hp hc e2 e3 ep, h⟩
  simp only [e_Main_ask, s_Main_ask_0, s_Main_ask_1, s_Main_ask_4 rcv_63, s_Main_ask_7, g_0_7, bst_in e1 hc, Option.bind_some, Option.toList_some, Option.toList_none, List.cons_append, List.nil_append, i10, i01, if_false, if_true, nI_add, nI_1, ep, ask_fin _ hp]
end Cal
