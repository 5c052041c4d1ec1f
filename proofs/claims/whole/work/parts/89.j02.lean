/-! ===== kinds, ask ===== -/
section Cal
variable {F : jx_F} {lv : Nat} {I : Nat → Nat → Int32} {J : Nat → Nat → Int64}
theorem maby_in {h : jx_H} {k : Nat} {d : Int32} (hk : k < 5) : rn F lv 158 [.int (nI k), .int d] h = some (some (.int (sigK (nI k) d)), h) := by
  match k, hk with
  | 0, _ =>
    simp only [e_Model_aimsBy, s_Model_aimsBy_0, s_Model_aimsBy_1, s_Model_aimsBy_4, s_Model_aimsBy_6, s_Model_aimsBy_9, s_Model_aimsBy_10, s_Model_aimsBy_11, s_Model_aimsBy_14, s_Model_aimsBy_16, s_Model_aimsBy_19, s_Model_aimsBy_20, s_Model_aimsBy_21, s_Model_aimsBy_24, s_Model_aimsBy_26, s_Model_aimsBy_29, s_Model_aimsBy_30, s_Model_aimsBy_31, s_Model_aimsBy_34, s_Model_aimsBy_35, s_Model_aimsBy_36, s_Model_aimsBy_39, s_Model_aimsBy_40, s_Model_aimsBy_43, s_Model_aimsBy_45, show nI 0 = (0 : Int32) from rfl, if_true]
    rfl
  | 1, _ =>
    simp only [e_Model_aimsBy, s_Model_aimsBy_0, s_Model_aimsBy_1, s_Model_aimsBy_4, s_Model_aimsBy_6, s_Model_aimsBy_9, s_Model_aimsBy_10, s_Model_aimsBy_11, s_Model_aimsBy_14, s_Model_aimsBy_16, s_Model_aimsBy_19, s_Model_aimsBy_20, s_Model_aimsBy_21, s_Model_aimsBy_24, s_Model_aimsBy_26, s_Model_aimsBy_29, s_Model_aimsBy_30, s_Model_aimsBy_31, s_Model_aimsBy_34, s_Model_aimsBy_35, s_Model_aimsBy_36, s_Model_aimsBy_39, s_Model_aimsBy_40, s_Model_aimsBy_43, s_Model_aimsBy_45, show nI 1 = (1 : Int32) from rfl, if_true, if_neg (show ¬ (1 : Int32) = 0 by decide)]
    rfl
  | 2, _ =>
    simp only [e_Model_aimsBy, s_Model_aimsBy_0, s_Model_aimsBy_1, s_Model_aimsBy_4, s_Model_aimsBy_6, s_Model_aimsBy_9, s_Model_aimsBy_10, s_Model_aimsBy_11, s_Model_aimsBy_14, s_Model_aimsBy_16, s_Model_aimsBy_19, s_Model_aimsBy_20, s_Model_aimsBy_21, s_Model_aimsBy_24, s_Model_aimsBy_26, s_Model_aimsBy_29, s_Model_aimsBy_30, s_Model_aimsBy_31, s_Model_aimsBy_34, s_Model_aimsBy_35, s_Model_aimsBy_36, s_Model_aimsBy_39, s_Model_aimsBy_40, s_Model_aimsBy_43, s_Model_aimsBy_45, show nI 2 = (2 : Int32) from rfl, if_true, if_neg (show ¬ (2 : Int32) = 0 by decide), if_neg (show ¬ (2 : Int32) = 1 by decide)]
    rfl
  | 3, _ =>
    simp only [e_Model_aimsBy, s_Model_aimsBy_0, s_Model_aimsBy_1, s_Model_aimsBy_4, s_Model_aimsBy_6, s_Model_aimsBy_9, s_Model_aimsBy_10, s_Model_aimsBy_11, s_Model_aimsBy_14, s_Model_aimsBy_16, s_Model_aimsBy_19, s_Model_aimsBy_20, s_Model_aimsBy_21, s_Model_aimsBy_24, s_Model_aimsBy_26, s_Model_aimsBy_29, s_Model_aimsBy_30, s_Model_aimsBy_31, s_Model_aimsBy_34, s_Model_aimsBy_35, s_Model_aimsBy_36, s_Model_aimsBy_39, s_Model_aimsBy_40, s_Model_aimsBy_43, s_Model_aimsBy_45, show nI 3 = (3 : Int32) from rfl, if_neg (show ¬ (3 : Int32) = 0 by decide), if_neg (show ¬ (3 : Int32) = 1 by decide), if_neg (show ¬ (3 : Int32) = 2 by decide), if_neg (show ¬ (3 : Int32) = 4 by decide)]
    rfl
  | 4, _ =>
    simp only [e_Model_aimsBy, s_Model_aimsBy_0, s_Model_aimsBy_1, s_Model_aimsBy_4, s_Model_aimsBy_6, s_Model_aimsBy_9, s_Model_aimsBy_10, s_Model_aimsBy_11, s_Model_aimsBy_14, s_Model_aimsBy_16, s_Model_aimsBy_19, s_Model_aimsBy_20, s_Model_aimsBy_21, s_Model_aimsBy_24, s_Model_aimsBy_26, s_Model_aimsBy_29, s_Model_aimsBy_30, s_Model_aimsBy_31, s_Model_aimsBy_34, s_Model_aimsBy_35, s_Model_aimsBy_36, s_Model_aimsBy_39, s_Model_aimsBy_40, s_Model_aimsBy_43, s_Model_aimsBy_45, show nI 4 = (4 : Int32) from rfl, if_true, if_neg (show ¬ (4 : Int32) = 0 by decide), if_neg (show ¬ (4 : Int32) = 1 by decide), if_neg (show ¬ (4 : Int32) = 2 by decide)]
    by_cases q : d = 1
    · subst q; rfl
    · simp only [if_neg q, sigK]
      rfl
theorem mkin_l1 {n k : Nat} {s : Int32} (hk : k < 5) (hn : n ≤ 6) (e2 : I 73 5 = nI n) (e3 : ∀ k, k < n → I 64 k = I 77 k ∧ I 65 k = 10 * I 78 k + I 79 k) : ∀ (c i : Nat) (v : Int32), i + c = n → (v = 0 ∨ v = 1) → ev F (lv + 1) jm_Model_kinds 14 [.ref 73, .int s, .int (nI k), .int v, .int (nI i)] [] (HH I J) = ev F (lv + 1) jm_Model_kinds 71 [.ref 73, .int s, .int (nI k), .int (if v = 0 then 0 else fitB I (nI k) i c), .int (nI n)] [] (HH I J) := by
  intro c
  induction c with
  | zero =>
    intro i v hi hv
    obtain rfl : i = n := by omega
    rw [s_Model_kinds_14]
    simp only [s_Model_kinds_16, s_Model_kinds_17, s_Model_kinds_20, g_73_5, e2, if_pos (nI_le (Nat.le_refl i) (show i < 2 ^ 31 by omega)), fitB]
    rcases hv with rfl | rfl
    · rfl
    · rfl
  | succ c ih =>
    intro i v hi hv
    obtain ⟨e4, e5⟩ := e3 i (by omega)
    rw [s_Model_kinds_14]
    simp only [s_Model_kinds_16, s_Model_kinds_17, s_Model_kinds_20, g_73_5, e2, if_neg (nI_ge (show i < n by omega) (show n < 2 ^ 31 by omega)), s_Model_kinds_23, s_Model_kinds_24]
    rcases hv with rfl | rfl
    · simp only [if_true, s_Model_kinds_63, s_Model_kinds_64, s_Model_kinds_65, s_Model_kinds_68, nI_1]
      rw [ih (i + 1) 0 (by omega) (Or.inl rfl), if_pos rfl]
    · simp only [if_neg (show ¬ (1 : Int32) = 0 by decide), s_Model_kinds_27, s_Model_kinds_28, s_Model_kinds_29, s_Model_kinds_32, s_Model_kinds_34, s_Model_kinds_35, s_Model_kinds_38, s_Model_kinds_40, s_Model_kinds_41, s_Model_kinds_44, s_Model_kinds_46, s_Model_kinds_47, s_Model_kinds_48, s_Model_kinds_49, s_Model_kinds_52, s_Model_kinds_54, s_Model_kinds_55, s_Model_kinds_56, g_73_6, g_73_7, g_73_8, gi_77, gi_78, gi_79, at_in (show i < 6 by omega) (show 6 < 2 ^ 31 by decide), nI_clamp (show i < 2 ^ 31 by omega), maby_in hk, Option.bind_some, Option.toList_some, List.cons_append, List.nil_append, ← e4, ← e5, fitB]
      by_cases q : sigK (nI k) (I 64 i) = I 65 i
      · simp only [if_pos q, s_Model_kinds_59, s_Model_kinds_60, s_Model_kinds_64, s_Model_kinds_65, s_Model_kinds_68, nI_1]
        rw [ih (i + 1) 1 (by omega) (Or.inr rfl), if_neg (by decide)]
      · simp only [if_neg q, s_Model_kinds_63, s_Model_kinds_64, s_Model_kinds_65, s_Model_kinds_68, nI_1]
        rw [ih (i + 1) 0 (by omega) (Or.inl rfl), if_pos rfl]
theorem mkin_l2 {n : Nat} (hn : n ≤ 6) (e2 : I 73 5 = nI n) (e3 : ∀ k, k < n → I 64 k = I 77 k ∧ I 65 k = 10 * I 78 k + I 79 k) : ∀ (c k : Nat) (s : Int32) (v3 v4 : Value), k + c = 5 → ev F (lv + 1) jm_Model_kinds 4 [.ref 73, .int s, .int (nI k), v3, v4] [] (HH I J) = some (some (.int (fold2 (posF I n) k c s)), HH I J) := by
  have e5 : (5 : Int32) = nI 5 := rfl
  intro c
  induction c with
  | zero =>
    intro k s v3 v4 hk
    obtain rfl : k = 5 := by omega
    rw [s_Model_kinds_4]
    simp only [s_Model_kinds_5, s_Model_kinds_6, e5, if_pos (nI_le (Nat.le_refl 5) (show 5 < 2 ^ 31 by decide)), s_Model_kinds_91, s_Model_kinds_92, fold2]
  | succ c ih =>
    intro k s v3 v4 hk
    rw [s_Model_kinds_4]
    simp only [s_Model_kinds_5, s_Model_kinds_6, e5, if_neg (nI_ge (show k < 5 by omega) (show 5 < 2 ^ 31 by decide)), s_Model_kinds_9, s_Model_kinds_10, s_Model_kinds_11, s_Model_kinds_12]
    have l := mkin_l1 (F := F) (lv := lv) (J := J) (s := s) (show k < 5 by omega) hn e2 e3 n 0 1 (by omega) (Or.inr rfl)
    refine Eq.trans l ?_
    rw [if_neg (show ¬ (1 : Int32) = 0 by decide)]
    simp only [s_Model_kinds_71, s_Model_kinds_72, s_Model_kinds_73, fold2, posF]
    by_cases q : fitB I (nI k) 0 n = 0
    · simp only [if_pos q, s_Model_kinds_82, s_Model_kinds_83, s_Model_kinds_84, s_Model_kinds_85, s_Model_kinds_88, or_0, nI_1]
      exact ih (k + 1) _ _ _ (by omega)
    · simp only [if_neg q, s_Model_kinds_76, s_Model_kinds_77, s_Model_kinds_78, s_Model_kinds_79, s_Model_kinds_83, s_Model_kinds_84, s_Model_kinds_85, s_Model_kinds_88, nI_1]
      exact ih (k + 1) _ _ _ (by omega)
theorem mkin_in {n : Nat} (hn : n ≤ 6) (e2 : I 73 5 = nI n) (e3 : ∀ k, k < n → I 64 k = I 77 k ∧ I 65 k = 10 * I 78 k + I 79 k) : rn F (lv + 1) 159 [.ref 73] (HH I J) = some (some (.int (fold2 (posF I n) 0 5 0)), HH I J) := by
  simp only [e_Model_kinds, s_Model_kinds_0, s_Model_kinds_1, s_Model_kinds_2, s_Model_kinds_3]
  exact mkin_l2 hn e2 e3 5 0 0 _ _ (by omega)
theorem st_kinds (h : Inv I J) : Alk F lv 84 159 [] I J := by
  obtain ⟨c, hc, e1, e2, e3⟩ := h.2.1
  refine ⟨fold2 (posF I c) 0 5 0, I, I, J, ?_, mkin_in hc e2 e3, h⟩
  simp only [e_Main_kinds, s_Main_kinds_0, s_Main_kinds_1, s_Main_kinds_4 rcv_63, s_Main_kinds_7, g_0_7, pos_in e1 hc, Option.bind_some, Option.toList_some, Option.toList_none, List.cons_append, List.nil_append, i10, i01, if_false, if_true, nI_add, nI_1]
theorem pos_bN {n : Nat} : ∀ m, m ≤ 5 → fold2 (posF I n) 0 m 0 = nI (bN (fun k => decide (¬ fitB I (nI k) 0 n = 0)) m) := by
  intro m
  induction m with
  | zero => intro _; rfl
  | succ m ih =>
    intro hm
    rw [fold2_s, ih (by omega)]
    rw [show ∀ f, bN f (m + 1) = bN f m + (if f m = true then 2 ^ m else 0) from fun _ => rfl]
    unfold posF
    by_cases q : fitB I (nI m) 0 n = 0
    · simp only [q, if_true, not_true, decide_false, Bool.false_eq_true, if_false, Nat.add_zero]
    · simp only [q, if_false, not_false_eq_true, decide_true, if_true]
      exact or_bit m (by omega) _ (bN_lt m)
/-- how many of a set are like kind k on day d -/
def smF (p k : Nat) (d : Int32) (o : Nat) (b : Int32) : Int32 := b + if (if p / 2 ^ k % 2 = 1 then (1 : Int32) else 0) = 0 then 0 else if (if p / 2 ^ o % 2 = 1 then (1 : Int32) else 0) = 0 then 0 else if sigK (nI k) d = sigK (nI o) d then 1 else 0
def msF (p : Nat) (d : Int32) (k : Nat) (b : Int32) : Int32 := if fold2 (smF p k d) 0 5 0 ≤ b then b else fold2 (smF p k d) 0 5 0
def askM (p : Nat) : Int32 :=
  let l0 := fold2 (bitF (nI p)) 0 8 0
  let m0 := fold2 (msF p 0) 0 5 0
  let m1 := fold2 (msF p 1) 0 5 0
  let b0 : Int32 := if l0 ≤ m0 then -1 else 0
  let l1 := if l0 ≤ m0 then l0 else m0
  if l1 ≤ m1 then b0 else 1
theorem ask_fin : ∀ p : Nat, p < 32 → bstD (nI p) = askM p := by decide +kernel
end Cal
