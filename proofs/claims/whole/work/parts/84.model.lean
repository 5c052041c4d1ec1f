/-! ===== places from b on; sets of bits ===== -/
def upF (I : Nat → Nat → Int32) (c b : Nat) (g : Nat → Int32) (k : Nat) : Nat → Nat → Int32 := fun x y => if x = c ∧ b ≤ y ∧ y < b + k then g (y - b) else I x y
section UpF
variable {I : Nat → Nat → Int32} {c b k : Nat} {g : Nat → Int32}
theorem upF_ne {x : Nat} (h : x ≠ c) : upF I c b g k x = I x := by funext y; unfold upF; rw [if_neg (fun q => h q.1)]
theorem upF_in {j : Nat} (h : j < k) : upF I c b g k c (b + j) = g j := by
  unfold upF; rw [if_pos ⟨rfl, by omega, by omega⟩]; congr 1; omega
theorem upF_out {y : Nat} (h : y < b ∨ b + k ≤ y) : upF I c b g k c y = I c y := by
  unfold upF; rw [if_neg (by omega)]
theorem upF_0 : upF I c b g 0 = I := by funext x y; unfold upF; rw [if_neg (by omega)]
theorem upF_s {v : Int32} (h : v = g k) : up2 (upF I c b g k) c (b + k) v = upF I c b g (k + 1) := by
  funext x
  by_cases hx : x = c
  · subst hx
    funext y
    rw [up2_eq]
    by_cases hy : y = b + k
    · subst hy; rw [pk_us, upF_in (by omega), h]
    · rw [pk_un hy]
      by_cases q : b ≤ y ∧ y < b + k
      · obtain ⟨i, rfl⟩ : ∃ i, y = b + i := ⟨y - b, by omega⟩
        rw [upF_in (by omega), upF_in (by omega)]
      · rw [upF_out (by omega), upF_out (by omega)]
  · rw [up2_ne hx, upF_ne hx, upF_ne hx]
end UpF
/-- the set of those below k for whom f holds -/
def bN (f : Nat → Bool) : Nat → Nat
  | 0 => 0
  | k + 1 => bN f k + (if f k = true then 2 ^ k else 0)
theorem bN_lt {f : Nat → Bool} : ∀ k, bN f k < 2 ^ k := by
  intro k
  induction k with
  | zero => exact Nat.one_pos
  | succ k ih => unfold bN; rw [Nat.pow_succ]; split <;> omega
theorem bN_get {f : Nat → Bool} {i : Nat} : ∀ k, i < k → bN f k / 2 ^ i % 2 = if f i = true then 1 else 0 := by
  intro k
  induction k with
  | zero => intro h; omega
  | succ k ih =>
    intro h
    unfold bN
    by_cases q : i = k
    · subst q
      have := bN_lt (f := f) i
      split
      · rw [Nat.add_div_right _ (Nat.two_pow_pos i), Nat.div_eq_of_lt this]
      · rw [Nat.add_zero, Nat.div_eq_of_lt this]
    · rw [← ih (by omega)]
      split
      · obtain ⟨d, hd⟩ : ∃ d, k = i + (d + 1) := ⟨k - i - 1, by omega⟩
        rw [hd, Nat.pow_add, Nat.add_mul_div_left _ _ (Nat.two_pow_pos i), Nat.pow_succ]
        omega
      · rw [Nat.add_zero]
theorem or_bit : ∀ k : Nat, k < 8 → ∀ x : Nat, x < 2 ^ k → nI x ||| (1 <<< (nI k &&& 31)) = nI (x + 2 ^ k) := by decide +kernel
theorem has_bit : ∀ x : Nat, x < 256 → ∀ i : Nat, i < 8 → nI x >>> (nI i &&& 31) &&& 1 = nI (x / 2 ^ i % 2) := by decide +kernel
theorem or_0 {x : Int32} : x ||| 0 = x := by
  apply Int32.toBitVec_inj.1
  show x.toBitVec ||| _ = _
  simp
section Mdl
variable {F : jx_F} {lv : Nat} {I C : Nat → Nat → Int32} {J : Nat → Nat → Int64} {a b n : Nat}
theorem mhas_in {h : jx_H} {x i : Nat} (hx : x < 256) (hi : i < 8) : rn F lv 104 [.int (nI x), .int (nI i)] h = some (some (.int (if x / 2 ^ i % 2 = 1 then 1 else 0)), h) := by
  simp only [e_Model_has, s_Model_has_0, s_Model_has_1, s_Model_has_2, s_Model_has_3, s_Model_has_4, s_Model_has_5, s_Model_has_6, s_Model_has_9, s_Model_has_10, s_Model_has_13, rz_Model_has_14, ro_Model_has_14, has_bit x hx i hi]
  by_cases q : x / 2 ^ i % 2 = 1
  · rw [q, if_pos (show nI 1 = (1 : Int32) from rfl), if_pos rfl]
  · rw [show x / 2 ^ i % 2 = 0 by omega, if_neg (show ¬ nI 0 = (1 : Int32) by decide), if_neg (by decide)]
theorem rw_74 {I' : Nat → Nat → Int32} (h : Rw C a I b n) (e : I' 74 = I 74) : Rw C a I' b n := by
  unfold Rw at h ⊢
  rw [e]
  exact h
/-- who gets a button -/
def getB (C : Nat → Nat → Int32) (a j : Nat) : Bool := decide (¬ C (a + 2) j ≤ 0 ∧ ¬ C (a + 2) (C (a + 3) j).toNatClampNeg ≤ 0)
theorem mham_l1 (h : Rw C a I b n) : ∀ (c m : Nat), m + c = 2 * n → ev F (lv + 1) jm_Model_hamper 4 [.ref 73, .int (nI b), .int (nI (bN (getB C a) m)), .int (nI m)] [] (HH I J) = ev F (lv + 1) jm_Model_hamper 56 [.ref 73, .int (nI b), .int (nI (bN (getB C a) (2 * n))), .int (nI (2 * n))] [] (HH I J) := by
  have h1 := h.ba
  have h2 := h.ms
  have e8 : (8 : Int32) = nI 8 := rfl
  intro c
  induction c with
  | zero =>
    intro m hm
    obtain rfl : m = 2 * n := by omega
    rw [s_Model_hamper_4]
    simp only [s_Model_hamper_0, s_Model_hamper_1, s_Model_hamper_2, s_Model_hamper_3, s_Model_hamper_5, s_Model_hamper_6 rcv_73, s_Model_hamper_9, s_Model_hamper_12, s_Model_hamper_13, s_Model_hamper_14, s_Model_hamper_15, s_Model_hamper_16 rcv_73, s_Model_hamper_19, s_Model_hamper_22, s_Model_hamper_23, s_Model_hamper_24, s_Model_hamper_25, s_Model_hamper_28, s_Model_hamper_29, s_Model_hamper_31, s_Model_hamper_32, s_Model_hamper_33, s_Model_hamper_34, s_Model_hamper_35 rcv_73, s_Model_hamper_38, s_Model_hamper_41, s_Model_hamper_42, s_Model_hamper_43, s_Model_hamper_44, s_Model_hamper_47, s_Model_hamper_48, s_Model_hamper_49, s_Model_hamper_50, s_Model_hamper_53, s_Model_hamper_57, s_Model_hamper_58, s_Model_hamper_59, s_Model_hamper_60 rcv_73, s_Model_hamper_63, s_Model_hamper_66, s_Model_hamper_67, s_Model_hamper_70, s_Model_hamper_71, s_Model_hamper_72, s_Model_hamper_73, s_Model_hamper_74, s_Model_hamper_75, s_Model_hamper_76, s_Model_hamper_77, s_Model_hamper_78, s_Model_hamper_79, s_Model_hamper_82, s_Model_hamper_85, s_Model_hamper_86, s_Model_hamper_89, s_Model_hamper_90, s_Model_hamper_91, s_Model_hamper_92, s_Model_hamper_93, s_Model_hamper_94, s_Model_hamper_95, s_Model_hamper_97, s_Model_hamper_100, s_Model_hamper_101, s_Model_hamper_104, s_Model_hamper_105, s_Model_hamper_106, s_Model_hamper_107, s_Model_hamper_110, s_Model_hamper_113, men_in h.nn, Option.bind_some, Option.toList_some, List.cons_append, List.nil_append, if_pos (nI_le (Nat.le_refl (2 * n)) (show 2 * n < 2 ^ 31 by omega))]
  | succ c ih =>
    intro m hm
    have hm' : m < 2 * n := by omega
    obtain ⟨o, ho, eo⟩ := h.wf.md m hm'
    have hb := bN_lt (f := getB C a) m
    have i1 := ih (m + 1) (by omega)
    have eg : getB C a m = decide (¬ C (a + 2) m ≤ 0 ∧ ¬ C (a + 2) o ≤ 0) := by unfold getB; rw [eo, nI_clamp (by omega)]
    rw [show bN (getB C a) (m + 1) = bN (getB C a) m + (if getB C a m = true then 2 ^ m else 0) from rfl, eg] at i1
    rw [s_Model_hamper_4]
    simp only [s_Model_hamper_0, s_Model_hamper_1, s_Model_hamper_2, s_Model_hamper_3, s_Model_hamper_5, s_Model_hamper_6 rcv_73, s_Model_hamper_9, s_Model_hamper_12, s_Model_hamper_13, s_Model_hamper_14, s_Model_hamper_15, s_Model_hamper_16 rcv_73, s_Model_hamper_19, s_Model_hamper_22, s_Model_hamper_23, s_Model_hamper_24, s_Model_hamper_25, s_Model_hamper_28, s_Model_hamper_29, s_Model_hamper_31, s_Model_hamper_32, s_Model_hamper_33, s_Model_hamper_34, s_Model_hamper_35 rcv_73, s_Model_hamper_38, s_Model_hamper_41, s_Model_hamper_42, s_Model_hamper_43, s_Model_hamper_44, s_Model_hamper_47, s_Model_hamper_48, s_Model_hamper_49, s_Model_hamper_50, s_Model_hamper_53, s_Model_hamper_57, s_Model_hamper_58, s_Model_hamper_59, s_Model_hamper_60 rcv_73, s_Model_hamper_63, s_Model_hamper_66, s_Model_hamper_67, s_Model_hamper_70, s_Model_hamper_71, s_Model_hamper_72, s_Model_hamper_73, s_Model_hamper_74, s_Model_hamper_75, s_Model_hamper_76, s_Model_hamper_77, s_Model_hamper_78, s_Model_hamper_79, s_Model_hamper_82, s_Model_hamper_85, s_Model_hamper_86, s_Model_hamper_89, s_Model_hamper_90, s_Model_hamper_91, s_Model_hamper_92, s_Model_hamper_93, s_Model_hamper_94, s_Model_hamper_95, s_Model_hamper_97, s_Model_hamper_100, s_Model_hamper_101, s_Model_hamper_104, s_Model_hamper_105, s_Model_hamper_106, s_Model_hamper_107, s_Model_hamper_110, s_Model_hamper_113, men_in h.nn, Option.bind_some, Option.toList_some, List.cons_append, List.nil_append, if_neg (nI_ge hm' (show 2 * n < 2 ^ 31 by omega)), out_in h hm']
    by_cases q1 : C (a + 2) m ≤ 0
    · simp only [q1, not_true, false_and, decide_false, Bool.false_eq_true, if_false, Nat.add_zero] at i1
      simp only [if_pos q1, if_true, s_Model_hamper_0, s_Model_hamper_1, s_Model_hamper_2, s_Model_hamper_3, s_Model_hamper_5, s_Model_hamper_6 rcv_73, s_Model_hamper_9, s_Model_hamper_12, s_Model_hamper_13, s_Model_hamper_14, s_Model_hamper_15, s_Model_hamper_16 rcv_73, s_Model_hamper_19, s_Model_hamper_22, s_Model_hamper_23, s_Model_hamper_24, s_Model_hamper_25, s_Model_hamper_28, s_Model_hamper_29, s_Model_hamper_31, s_Model_hamper_32, s_Model_hamper_33, s_Model_hamper_34, s_Model_hamper_35 rcv_73, s_Model_hamper_38, s_Model_hamper_41, s_Model_hamper_42, s_Model_hamper_43, s_Model_hamper_44, s_Model_hamper_47, s_Model_hamper_48, s_Model_hamper_49, s_Model_hamper_50, s_Model_hamper_53, s_Model_hamper_57, s_Model_hamper_58, s_Model_hamper_59, s_Model_hamper_60 rcv_73, s_Model_hamper_63, s_Model_hamper_66, s_Model_hamper_67, s_Model_hamper_70, s_Model_hamper_71, s_Model_hamper_72, s_Model_hamper_73, s_Model_hamper_74, s_Model_hamper_75, s_Model_hamper_76, s_Model_hamper_77, s_Model_hamper_78, s_Model_hamper_79, s_Model_hamper_82, s_Model_hamper_85, s_Model_hamper_86, s_Model_hamper_89, s_Model_hamper_90, s_Model_hamper_91, s_Model_hamper_92, s_Model_hamper_93, s_Model_hamper_94, s_Model_hamper_95, s_Model_hamper_97, s_Model_hamper_100, s_Model_hamper_101, s_Model_hamper_104, s_Model_hamper_105, s_Model_hamper_106, s_Model_hamper_107, s_Model_hamper_110, s_Model_hamper_113, or_0, nI_1]
      exact i1
    · simp only [if_neg q1, if_neg (show ¬ (1 : Int32) = 0 by decide), s_Model_hamper_0, s_Model_hamper_1, s_Model_hamper_2, s_Model_hamper_3, s_Model_hamper_5, s_Model_hamper_6 rcv_73, s_Model_hamper_9, s_Model_hamper_12, s_Model_hamper_13, s_Model_hamper_14, s_Model_hamper_15, s_Model_hamper_16 rcv_73, s_Model_hamper_19, s_Model_hamper_22, s_Model_hamper_23, s_Model_hamper_24, s_Model_hamper_25, s_Model_hamper_28, s_Model_hamper_29, s_Model_hamper_31, s_Model_hamper_32, s_Model_hamper_33, s_Model_hamper_34, s_Model_hamper_35 rcv_73, s_Model_hamper_38, s_Model_hamper_41, s_Model_hamper_42, s_Model_hamper_43, s_Model_hamper_44, s_Model_hamper_47, s_Model_hamper_48, s_Model_hamper_49, s_Model_hamper_50, s_Model_hamper_53, s_Model_hamper_57, s_Model_hamper_58, s_Model_hamper_59, s_Model_hamper_60 rcv_73, s_Model_hamper_63, s_Model_hamper_66, s_Model_hamper_67, s_Model_hamper_70, s_Model_hamper_71, s_Model_hamper_72, s_Model_hamper_73, s_Model_hamper_74, s_Model_hamper_75, s_Model_hamper_76, s_Model_hamper_77, s_Model_hamper_78, s_Model_hamper_79, s_Model_hamper_82, s_Model_hamper_85, s_Model_hamper_86, s_Model_hamper_89, s_Model_hamper_90, s_Model_hamper_91, s_Model_hamper_92, s_Model_hamper_93, s_Model_hamper_94, s_Model_hamper_95, s_Model_hamper_97, s_Model_hamper_100, s_Model_hamper_101, s_Model_hamper_104, s_Model_hamper_105, s_Model_hamper_106, s_Model_hamper_107, s_Model_hamper_110, s_Model_hamper_113, g_73_0, e8, nI_add, g74 (show b + 8 + m < 239 by omega), h.md hm', eo, out_in h ho, Option.bind_some, Option.toList_some, List.cons_append, List.nil_append]
      by_cases q2 : C (a + 2) o ≤ 0
      · simp only [q1, q2, not_true, and_false, decide_false, Bool.false_eq_true, if_false, Nat.add_zero] at i1
        simp only [if_pos q2, if_true, s_Model_hamper_0, s_Model_hamper_1, s_Model_hamper_2, s_Model_hamper_3, s_Model_hamper_5, s_Model_hamper_6 rcv_73, s_Model_hamper_9, s_Model_hamper_12, s_Model_hamper_13, s_Model_hamper_14, s_Model_hamper_15, s_Model_hamper_16 rcv_73, s_Model_hamper_19, s_Model_hamper_22, s_Model_hamper_23, s_Model_hamper_24, s_Model_hamper_25, s_Model_hamper_28, s_Model_hamper_29, s_Model_hamper_31, s_Model_hamper_32, s_Model_hamper_33, s_Model_hamper_34, s_Model_hamper_35 rcv_73, s_Model_hamper_38, s_Model_hamper_41, s_Model_hamper_42, s_Model_hamper_43, s_Model_hamper_44, s_Model_hamper_47, s_Model_hamper_48, s_Model_hamper_49, s_Model_hamper_50, s_Model_hamper_53, s_Model_hamper_57, s_Model_hamper_58, s_Model_hamper_59, s_Model_hamper_60 rcv_73, s_Model_hamper_63, s_Model_hamper_66, s_Model_hamper_67, s_Model_hamper_70, s_Model_hamper_71, s_Model_hamper_72, s_Model_hamper_73, s_Model_hamper_74, s_Model_hamper_75, s_Model_hamper_76, s_Model_hamper_77, s_Model_hamper_78, s_Model_hamper_79, s_Model_hamper_82, s_Model_hamper_85, s_Model_hamper_86, s_Model_hamper_89, s_Model_hamper_90, s_Model_hamper_91, s_Model_hamper_92, s_Model_hamper_93, s_Model_hamper_94, s_Model_hamper_95, s_Model_hamper_97, s_Model_hamper_100, s_Model_hamper_101, s_Model_hamper_104, s_Model_hamper_105, s_Model_hamper_106, s_Model_hamper_107, s_Model_hamper_110, s_Model_hamper_113, or_0, nI_1]
        exact i1
      · simp only [q1, q2, not_false_eq_true, and_self, decide_true, if_true] at i1
        simp only [if_neg q2, if_neg (show ¬ (1 : Int32) = 0 by decide), s_Model_hamper_0, s_Model_hamper_1, s_Model_hamper_2, s_Model_hamper_3, s_Model_hamper_5, s_Model_hamper_6 rcv_73, s_Model_hamper_9, s_Model_hamper_12, s_Model_hamper_13, s_Model_hamper_14, s_Model_hamper_15, s_Model_hamper_16 rcv_73, s_Model_hamper_19, s_Model_hamper_22, s_Model_hamper_23, s_Model_hamper_24, s_Model_hamper_25, s_Model_hamper_28, s_Model_hamper_29, s_Model_hamper_31, s_Model_hamper_32, s_Model_hamper_33, s_Model_hamper_34, s_Model_hamper_35 rcv_73, s_Model_hamper_38, s_Model_hamper_41, s_Model_hamper_42, s_Model_hamper_43, s_Model_hamper_44, s_Model_hamper_47, s_Model_hamper_48, s_Model_hamper_49, s_Model_hamper_50, s_Model_hamper_53, s_Model_hamper_57, s_Model_hamper_58, s_Model_hamper_59, s_Model_hamper_60 rcv_73, s_Model_hamper_63, s_Model_hamper_66, s_Model_hamper_67, s_Model_hamper_70, s_Model_hamper_71, s_Model_hamper_72, s_Model_hamper_73, s_Model_hamper_74, s_Model_hamper_75, s_Model_hamper_76, s_Model_hamper_77, s_Model_hamper_78, s_Model_hamper_79, s_Model_hamper_82, s_Model_hamper_85, s_Model_hamper_86, s_Model_hamper_89, s_Model_hamper_90, s_Model_hamper_91, s_Model_hamper_92, s_Model_hamper_93, s_Model_hamper_94, s_Model_hamper_95, s_Model_hamper_97, s_Model_hamper_100, s_Model_hamper_101, s_Model_hamper_104, s_Model_hamper_105, s_Model_hamper_106, s_Model_hamper_107, s_Model_hamper_110, s_Model_hamper_113, or_bit m (by omega) _ hb, nI_1]
        exact i1
end Mdl
