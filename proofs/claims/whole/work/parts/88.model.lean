/-! ===== the Model: sums over the men, copies ===== -/
theorem fold2_add {f : Nat → Int32 → Int32} : ∀ (c d m : Nat) (b : Int32), fold2 f m (c + d) b = fold2 f (m + c) d (fold2 f m c b) := by
  intro c
  induction c with
  | zero => intro d m b; rw [Nat.zero_add]; rfl
  | succ c ih =>
    intro d m b
    rw [show c + 1 + d = (c + d) + 1 by omega]
    show fold2 f (m + 1) (c + d) (f m b) = _
    rw [ih d (m + 1), show m + 1 + c = m + (c + 1) by omega]
    rfl
theorem fold2_cg {f g : Nat → Int32 → Int32} : ∀ (c m : Nat) (b : Int32), (∀ i, m ≤ i → i < m + c → ∀ b, f i b = g i b) → fold2 f m c b = fold2 g m c b := by
  intro c
  induction c with
  | zero => intro m b _; rfl
  | succ c ih =>
    intro m b h
    show fold2 f (m + 1) c (f m b) = fold2 g (m + 1) c (g m b)
    rw [h m (by omega) (by omega) b, ih (m + 1) _ (fun i a b => h i (by omega) (by omega))]
theorem fold2_id {f : Nat → Int32 → Int32} : ∀ (c m : Nat) (b : Int32), (∀ i, m ≤ i → i < m + c → ∀ b, f i b = b) → fold2 f m c b = b := by
  intro c
  induction c with
  | zero => intro m b _; rfl
  | succ c ih =>
    intro m b h
    show fold2 f (m + 1) c (f m b) = b
    rw [h m (by omega) (by omega) b, ih (m + 1) _ (fun i a b => h i (by omega) (by omega))]
/-- of one side only -/
def sidF (n : Nat) (s : Int32) (f : Nat → Int32 → Int32) (m : Nat) (b : Int32) : Int32 := if (if n ≤ m then (1 : Int32) else 0) = s then f m b else b
theorem sid_0 {n : Nat} {f : Nat → Int32 → Int32} {b : Int32} : fold2 (sidF n 0 f) 0 (2 * n) b = fold2 f 0 n b := by
  rw [show 2 * n = n + n by omega, fold2_add, fold2_id n (0 + n) _ (fun i h1 h2 b => by unfold sidF; rw [if_pos (show n ≤ i by omega), if_neg (by decide)])]
  exact fold2_cg n 0 b (fun i h1 h2 b => by unfold sidF; rw [if_neg (show ¬ n ≤ i by omega), if_pos rfl])
theorem sid_1 {n : Nat} {f : Nat → Int32 → Int32} {b : Int32} : fold2 (sidF n 1 f) 0 (2 * n) b = fold2 f n n b := by
  rw [show 2 * n = n + n by omega, fold2_add, fold2_id n 0 _ (fun i h1 h2 b => by unfold sidF; rw [if_neg (show ¬ n ≤ i by omega), if_neg (by decide)]), Nat.zero_add]
  exact fold2_cg n n b (fun i h1 h2 b => by unfold sidF; rw [if_pos (show n ≤ i by omega), if_pos rfl])
/-- the bits of x, one by one -/
def bitF (x : Int32) (k : Nat) (b : Int32) : Int32 := b + ((x >>> (nI k &&& 31)) &&& 1)
/-- how many of those below k -/
def cN (f : Nat → Bool) : Nat → Nat
  | 0 => 0
  | k + 1 => cN f k + (if f k = true then 1 else 0)
theorem fold2_s {f : Nat → Int32 → Int32} {m : Nat} {b : Int32} : fold2 f 0 (m + 1) b = f m (fold2 f 0 m b) := by
  rw [fold2_add, Nat.zero_add]; rfl
theorem bit_cnt {f : Nat → Bool} {M : Nat} (hM : M ≤ 8) : ∀ k, k ≤ 8 → fold2 (bitF (nI (bN f M))) 0 k 0 = nI (cN f (min k M)) := by
  have hB : bN f M < 256 := Nat.lt_of_lt_of_le (bN_lt M) (Nat.pow_le_pow_right (by decide) hM)
  intro k
  induction k with
  | zero => intro _; rw [Nat.zero_min]; rfl
  | succ k ih =>
    intro hk
    rw [fold2_s, ih (by omega)]
    unfold bitF
    rw [has_bit _ hB k (by omega), nI_add]
    congr 1
    by_cases q : k < M
    · rw [bN_get M q, show min (k + 1) M = min k M + 1 by omega, show min k M = k by omega]
      rfl
    · have : bN f M / 2 ^ k = 0 := Nat.div_eq_of_lt (Nat.lt_of_lt_of_le (bN_lt M) (Nat.pow_le_pow_right (by decide) (by omega)))
      rw [this, show min (k + 1) M = min k M by omega, Nat.zero_mod, Nat.add_zero]
theorem fld_bN {C : Nat → Nat → Int32} {a : Nat} : ∀ m, m ≤ 8 → fold2 (fldF C a) 0 m 0 = nI (bN (fun j => decide (¬ C (a + 2) j = 0)) m) := by
  intro m
  induction m with
  | zero => intro _; rfl
  | succ m ih =>
    intro hm
    rw [fold2_s, ih (by omega)]
    rw [show ∀ f, bN f (m + 1) = bN f m + (if f m = true then 2 ^ m else 0) from fun _ => rfl]
    unfold fldF
    by_cases q : C (a + 2) m = 0
    · simp only [q, if_true, not_true, decide_false, Bool.false_eq_true, if_false, Nat.add_zero]
    · simp only [q, if_false, not_false_eq_true, decide_true, if_true]
      exact or_bit m (by omega) _ (bN_lt m)
theorem lft_cN {C : Nat → Nat → Int32} {a : Nat} : ∀ m, fold2 (lftF C a) 0 m 0 = nI (cN (fun j => decide (¬ C (a + 2) j = 0)) m) := by
  intro m
  induction m with
  | zero => rfl
  | succ m ih =>
    rw [fold2_s, ih]
    rw [show ∀ f, cN f (m + 1) = cN f m + (if f m = true then 1 else 0) from fun _ => rfl]
    unfold lftF
    by_cases q : C (a + 2) m = 0
    · simp only [q, if_true, not_true, decide_false, Bool.false_eq_true, if_false, Nat.add_zero]
    · simp only [q, if_false, not_false_eq_true, decide_true, if_true, nI_1]
theorem lft_acc {C : Nat → Nat → Int32} {a : Nat} : ∀ (c m : Nat) (b : Int32), fold2 (lftF C a) m c b = b + fold2 (lftF C a) m c 0 := by
  intro c
  induction c with
  | zero => intro m b; exact (Int32.add_zero b).symm
  | succ c ih =>
    intro m b
    show fold2 (lftF C a) (m + 1) c (lftF C a m b) = b + fold2 (lftF C a) (m + 1) c (lftF C a m 0)
    rw [ih (m + 1) (lftF C a m b), ih (m + 1) (lftF C a m 0)]
    unfold lftF
    split
    · rw [Int32.zero_add]
    · rw [Int32.zero_add, Int32.add_assoc]
/-- the bits of those in the field: how many are left -/
theorem left_bits {C : Nat → Nat → Int32} {a n : Nat} (hn : n ≤ 4) : fold2 (bitF (fold2 (fldF C a) 0 (2 * n) 0)) 0 8 0 = fold2 (lftF C a) 0 n 0 + fold2 (lftF C a) n n 0 := by
  rw [fld_bN (2 * n) (by omega), bit_cnt (show 2 * n ≤ 8 by omega) 8 (Nat.le_refl 8), show min 8 (2 * n) = 2 * n by omega, ← lft_cN, show 2 * n = n + n by omega, fold2_add, Nat.zero_add, lft_acc n n]
section Mdl
variable {F : jx_F} {lv : Nat} {I C : Nat → Nat → Int32} {J : Nat → Nat → Int64} {a b n : Nat}
theorem mbits_loop {h : jx_H} {x : Int32} : ∀ (c k : Nat) (v : Int32), k + c = 8 → ev F lv jm_Model_bits 4 [.int x, .int v, .int (nI k)] [] h = some (some (.int (fold2 (bitF x) k c v)), h) := by
  have e8 : (8 : Int32) = nI 8 := rfl
  intro c
  induction c with
  | zero =>
    intro k v hk
    obtain rfl : k = 8 := by omega
    rw [s_Model_bits_4]
    simp only [s_Model_bits_0, s_Model_bits_1, s_Model_bits_2, s_Model_bits_3, s_Model_bits_5, s_Model_bits_7, s_Model_bits_10, s_Model_bits_11, s_Model_bits_12, s_Model_bits_13, s_Model_bits_14, s_Model_bits_15, s_Model_bits_16, s_Model_bits_17, s_Model_bits_18, s_Model_bits_21, s_Model_bits_24, s_Model_bits_25, e8, if_pos (nI_le (Nat.le_refl 8) (show 8 < 2 ^ 31 by decide)), fold2]
  | succ c ih =>
    intro k v hk
    rw [s_Model_bits_4]
    simp only [s_Model_bits_0, s_Model_bits_1, s_Model_bits_2, s_Model_bits_3, s_Model_bits_5, s_Model_bits_7, s_Model_bits_10, s_Model_bits_11, s_Model_bits_12, s_Model_bits_13, s_Model_bits_14, s_Model_bits_15, s_Model_bits_16, s_Model_bits_17, s_Model_bits_18, s_Model_bits_21, s_Model_bits_24, s_Model_bits_25, e8, if_neg (nI_ge (show k < 8 by omega) (show 8 < 2 ^ 31 by decide)), nI_1, ih (k + 1) _ (show k + 1 + c = 8 by omega), fold2, bitF]
theorem mbits_in {h : jx_H} {x : Int32} : rn F lv 105 [.int x] h = some (some (.int (fold2 (bitF x) 0 8 0)), h) := by
  simp only [e_Model_bits, s_Model_bits_0, s_Model_bits_1, s_Model_bits_2, s_Model_bits_3, s_Model_bits_5, s_Model_bits_7, s_Model_bits_10, s_Model_bits_11, s_Model_bits_12, s_Model_bits_13, s_Model_bits_14, s_Model_bits_15, s_Model_bits_16, s_Model_bits_17, s_Model_bits_18, s_Model_bits_21, s_Model_bits_24, s_Model_bits_25]
  exact mbits_loop 8 0 0 (by omega)
theorem mkno_loop {x : Int32} (h : Rw C a I 0 n) : ∀ (c m : Nat) (v : Int32), m + c = 2 * n → ev F (lv + 1) jm_Model_knownBy 4 [.ref 73, .int x, .int v, .int (nI m)] [] (HH I J) = some (some (.int (fold2 (knoF C a x) m c v)), HH I J) := by
  have h2 := h.ms
  have e8 : (8 : Int32) = nI 8 := rfl
  intro c
  induction c with
  | zero =>
    intro m v hm
    obtain rfl : m = 2 * n := by omega
    rw [s_Model_knownBy_4]
    simp only [s_Model_knownBy_0, s_Model_knownBy_1, s_Model_knownBy_2, s_Model_knownBy_3, s_Model_knownBy_5, s_Model_knownBy_6 rcv_73, s_Model_knownBy_9, s_Model_knownBy_12, s_Model_knownBy_13, s_Model_knownBy_14, s_Model_knownBy_17, s_Model_knownBy_19, s_Model_knownBy_20, s_Model_knownBy_21, s_Model_knownBy_22, s_Model_knownBy_23, s_Model_knownBy_26, s_Model_knownBy_27, s_Model_knownBy_28, s_Model_knownBy_29, s_Model_knownBy_32, s_Model_knownBy_33, s_Model_knownBy_34, s_Model_knownBy_35, s_Model_knownBy_38, s_Model_knownBy_41, s_Model_knownBy_42, men_in h.nn, Option.bind_some, Option.toList_some, List.cons_append, List.nil_append, if_pos (nI_le (Nat.le_refl (2 * n)) (show 2 * n < 2 ^ 31 by omega)), fold2]
  | succ c ih =>
    intro m v hm
    have hm' : m < 2 * n := by omega
    have em : I 74 (8 + m) = C (a + 3) m := by have := h.md hm'; rwa [Nat.zero_add] at this
    rw [s_Model_knownBy_4]
    simp only [s_Model_knownBy_0, s_Model_knownBy_1, s_Model_knownBy_2, s_Model_knownBy_3, s_Model_knownBy_5, s_Model_knownBy_6 rcv_73, s_Model_knownBy_9, s_Model_knownBy_12, s_Model_knownBy_13, s_Model_knownBy_14, s_Model_knownBy_17, s_Model_knownBy_19, s_Model_knownBy_20, s_Model_knownBy_21, s_Model_knownBy_22, s_Model_knownBy_23, s_Model_knownBy_26, s_Model_knownBy_27, s_Model_knownBy_28, s_Model_knownBy_29, s_Model_knownBy_32, s_Model_knownBy_33, s_Model_knownBy_34, s_Model_knownBy_35, s_Model_knownBy_38, s_Model_knownBy_41, s_Model_knownBy_42, men_in h.nn, Option.bind_some, Option.toList_some, List.cons_append, List.nil_append, if_neg (nI_ge hm' (show 2 * n < 2 ^ 31 by omega)), g_73_0, e8, nI_add, g74 (show 8 + m < 239 by omega), em, nI_1, ih (m + 1) _ (show m + 1 + c = 2 * n by omega), or_0, fold2, knoF]
    split <;> rfl
theorem mkno_in {x : Int32} (h : Rw C a I 0 n) : rn F (lv + 1) 133 [.ref 73, .int x] (HH I J) = some (some (.int (fold2 (knoF C a x) 0 (2 * n) 0)), HH I J) := by
  simp only [e_Model_knownBy, s_Model_knownBy_0, s_Model_knownBy_1, s_Model_knownBy_2, s_Model_knownBy_3, s_Model_knownBy_5, s_Model_knownBy_6 rcv_73, s_Model_knownBy_9, s_Model_knownBy_12, s_Model_knownBy_13, s_Model_knownBy_14, s_Model_knownBy_17, s_Model_knownBy_19, s_Model_knownBy_20, s_Model_knownBy_21, s_Model_knownBy_22, s_Model_knownBy_23, s_Model_knownBy_26, s_Model_knownBy_27, s_Model_knownBy_28, s_Model_knownBy_29, s_Model_knownBy_32, s_Model_knownBy_33, s_Model_knownBy_34, s_Model_knownBy_35, s_Model_knownBy_38, s_Model_knownBy_41, s_Model_knownBy_42]
  exact mkno_loop h (2 * n) 0 0 (by omega)
theorem mams_loop {d : Nat} (h : Rw C a I b n) (hd : C a 4 = nI d) (hd' : d < 2 ^ 20) : ∀ (c m : Nat) (v : Int32), m + c = 2 * n → ev F (lv + 3) jm_Model_aiming 4 [.ref 73, .int (nI b), .int v, .int (nI m)] [] (HH I J) = some (some (.int (fold2 (aimN C a n) m c v)), HH I J) := by
  have h2 := h.ms
  intro c
  induction c with
  | zero =>
    intro m v hm
    obtain rfl : m = 2 * n := by omega
    rw [s_Model_aiming_4]
    simp only [s_Model_aiming_0, s_Model_aiming_1, s_Model_aiming_2, s_Model_aiming_3, s_Model_aiming_5, s_Model_aiming_6 rcv_73, s_Model_aiming_9, s_Model_aiming_12, s_Model_aiming_13, s_Model_aiming_14, s_Model_aiming_15, s_Model_aiming_16 rcv_73, s_Model_aiming_19, s_Model_aiming_20, s_Model_aiming_23, s_Model_aiming_24, s_Model_aiming_27, s_Model_aiming_28, s_Model_aiming_29, s_Model_aiming_30, s_Model_aiming_33, s_Model_aiming_36, s_Model_aiming_37, men_in h.nn, Option.bind_some, Option.toList_some, List.cons_append, List.nil_append, if_pos (nI_le (Nat.le_refl (2 * n)) (show 2 * n < 2 ^ 31 by omega)), fold2]
  | succ c ih =>
    intro m v hm
    have hm' : m < 2 * n := by omega
    rw [s_Model_aiming_4]
    simp only [s_Model_aiming_0, s_Model_aiming_1, s_Model_aiming_2, s_Model_aiming_3, s_Model_aiming_5, s_Model_aiming_6 rcv_73, s_Model_aiming_9, s_Model_aiming_12, s_Model_aiming_13, s_Model_aiming_14, s_Model_aiming_15, s_Model_aiming_16 rcv_73, s_Model_aiming_19, s_Model_aiming_20, s_Model_aiming_23, s_Model_aiming_24, s_Model_aiming_27, s_Model_aiming_28, s_Model_aiming_29, s_Model_aiming_30, s_Model_aiming_33, s_Model_aiming_36, s_Model_aiming_37, men_in h.nn, Option.bind_some, Option.toList_some, List.cons_append, List.nil_append, if_neg (nI_ge hm' (show 2 * n < 2 ^ 31 by omega)), maim_in h hm' hd hd', nI_1, ih (m + 1) _ (show m + 1 + c = 2 * n by omega), Int32.add_zero, fold2, aimN]
    split <;> rfl
theorem mams_in {d : Nat} (h : Rw C a I b n) (hd : C a 4 = nI d) (hd' : d < 2 ^ 20) : rn F (lv + 3) 146 [.ref 73, .int (nI b)] (HH I J) = some (some (.int (fold2 (aimN C a n) 0 (2 * n) 0)), HH I J) := by
  simp only [e_Model_aiming, s_Model_aiming_0, s_Model_aiming_1, s_Model_aiming_2, s_Model_aiming_3, s_Model_aiming_5, s_Model_aiming_6 rcv_73, s_Model_aiming_9, s_Model_aiming_12, s_Model_aiming_13, s_Model_aiming_14, s_Model_aiming_15, s_Model_aiming_16 rcv_73, s_Model_aiming_19, s_Model_aiming_20, s_Model_aiming_23, s_Model_aiming_24, s_Model_aiming_27, s_Model_aiming_28, s_Model_aiming_29, s_Model_aiming_30, s_Model_aiming_33, s_Model_aiming_36, s_Model_aiming_37]
  exact mams_loop h hd hd' (2 * n) 0 0 (by omega)
theorem mfld_loop (h : Rw C a I b n) : ∀ (c m : Nat) (v : Int32), m + c = 2 * n → ev F (lv + 1) jm_Model_outOnes 4 [.ref 73, .int (nI b), .int v, .int (nI m)] [] (HH I J) = some (some (.int (fold2 (fldF C a) m c v)), HH I J) := by
  have h2 := h.ms
  intro c
  induction c with
  | zero =>
    intro m v hm
    obtain rfl : m = 2 * n := by omega
    rw [s_Model_outOnes_4]
    simp only [s_Model_outOnes_0, s_Model_outOnes_1, s_Model_outOnes_2, s_Model_outOnes_3, s_Model_outOnes_5, s_Model_outOnes_6 rcv_73, s_Model_outOnes_9, s_Model_outOnes_12, s_Model_outOnes_13, s_Model_outOnes_14, s_Model_outOnes_15, s_Model_outOnes_16 rcv_73, s_Model_outOnes_19, s_Model_outOnes_22, s_Model_outOnes_23, s_Model_outOnes_24, s_Model_outOnes_25, s_Model_outOnes_28, s_Model_outOnes_29, s_Model_outOnes_30, s_Model_outOnes_31, s_Model_outOnes_34, s_Model_outOnes_37, s_Model_outOnes_38, men_in h.nn, Option.bind_some, Option.toList_some, List.cons_append, List.nil_append, if_pos (nI_le (Nat.le_refl (2 * n)) (show 2 * n < 2 ^ 31 by omega)), fold2]
  | succ c ih =>
    intro m v hm
    have hm' : m < 2 * n := by omega
    obtain ⟨bm, hbm, ebm⟩ := h.wf.bt m hm'
    rw [s_Model_outOnes_4]
    simp only [s_Model_outOnes_0, s_Model_outOnes_1, s_Model_outOnes_2, s_Model_outOnes_3, s_Model_outOnes_5, s_Model_outOnes_6 rcv_73, s_Model_outOnes_9, s_Model_outOnes_12, s_Model_outOnes_13, s_Model_outOnes_14, s_Model_outOnes_15, s_Model_outOnes_16 rcv_73, s_Model_outOnes_19, s_Model_outOnes_22, s_Model_outOnes_23, s_Model_outOnes_24, s_Model_outOnes_25, s_Model_outOnes_28, s_Model_outOnes_29, s_Model_outOnes_30, s_Model_outOnes_31, s_Model_outOnes_34, s_Model_outOnes_37, s_Model_outOnes_38, men_in h.nn, Option.bind_some, Option.toList_some, List.cons_append, List.nil_append, if_neg (nI_ge hm' (show 2 * n < 2 ^ 31 by omega)), out_in h hm', nI_1, ih (m + 1) _ (show m + 1 + c = 2 * n by omega), or_0, fold2, fldF, ebm, nI_le0 (show bm < 2 ^ 31 by omega)]
    by_cases q : nI bm = (0 : Int32)
    · simp only [if_pos q, if_true]
    · simp only [if_neg q, if_neg (show ¬ (1 : Int32) = 0 by decide)]
theorem mfld_in (h : Rw C a I b n) : rn F (lv + 1) 148 [.ref 73, .int (nI b)] (HH I J) = some (some (.int (fold2 (fldF C a) 0 (2 * n) 0)), HH I J) := by
  simp only [e_Model_outOnes, s_Model_outOnes_0, s_Model_outOnes_1, s_Model_outOnes_2, s_Model_outOnes_3, s_Model_outOnes_5, s_Model_outOnes_6 rcv_73, s_Model_outOnes_9, s_Model_outOnes_12, s_Model_outOnes_13, s_Model_outOnes_14, s_Model_outOnes_15, s_Model_outOnes_16 rcv_73, s_Model_outOnes_19, s_Model_outOnes_22, s_Model_outOnes_23, s_Model_outOnes_24, s_Model_outOnes_25, s_Model_outOnes_28, s_Model_outOnes_29, s_Model_outOnes_30, s_Model_outOnes_31, s_Model_outOnes_34, s_Model_outOnes_37, s_Model_outOnes_38]
  exact mfld_loop h (2 * n) 0 0 (by omega)
theorem mbut_loop {s : Int32} (h : Rw C a I 0 n) : ∀ (c m : Nat) (v : Int32), m + c = 2 * n → ev F (lv + 1) jm_Model_buttonsOf 4 [.ref 73, .int s, .int v, .int (nI m)] [] (HH I J) = some (some (.int (fold2 (sidF n s (butF C a)) m c v)), HH I J) := by
  have h2 := h.ms
  have e0 : ∀ m, (0 : Int32) + nI m = nI m := fun m => Int32.zero_add _
  intro c
  induction c with
  | zero =>
    intro m v hm
    obtain rfl : m = 2 * n := by omega
    rw [s_Model_buttonsOf_4]
    simp only [s_Model_buttonsOf_0, s_Model_buttonsOf_1, s_Model_buttonsOf_2, s_Model_buttonsOf_3, s_Model_buttonsOf_5, s_Model_buttonsOf_6 rcv_73, s_Model_buttonsOf_9, s_Model_buttonsOf_12, s_Model_buttonsOf_13, s_Model_buttonsOf_14, s_Model_buttonsOf_15 rcv_73, s_Model_buttonsOf_18, s_Model_buttonsOf_19, s_Model_buttonsOf_22, s_Model_buttonsOf_23, s_Model_buttonsOf_26, s_Model_buttonsOf_27, s_Model_buttonsOf_28, s_Model_buttonsOf_29, s_Model_buttonsOf_30, s_Model_buttonsOf_33, s_Model_buttonsOf_34, s_Model_buttonsOf_35, s_Model_buttonsOf_36, s_Model_buttonsOf_39, s_Model_buttonsOf_42, s_Model_buttonsOf_43, men_in h.nn, Option.bind_some, Option.toList_some, List.cons_append, List.nil_append, if_pos (nI_le (Nat.le_refl (2 * n)) (show 2 * n < 2 ^ 31 by omega)), fold2]
  | succ c ih =>
    intro m v hm
    have hm' : m < 2 * n := by omega
    have eb : I 74 m = C (a + 2) m := by have := h.bt hm'; rwa [Nat.zero_add] at this
    rw [s_Model_buttonsOf_4]
    simp only [s_Model_buttonsOf_0, s_Model_buttonsOf_1, s_Model_buttonsOf_2, s_Model_buttonsOf_3, s_Model_buttonsOf_5, s_Model_buttonsOf_6 rcv_73, s_Model_buttonsOf_9, s_Model_buttonsOf_12, s_Model_buttonsOf_13, s_Model_buttonsOf_14, s_Model_buttonsOf_15 rcv_73, s_Model_buttonsOf_18, s_Model_buttonsOf_19, s_Model_buttonsOf_22, s_Model_buttonsOf_23, s_Model_buttonsOf_26, s_Model_buttonsOf_27, s_Model_buttonsOf_28, s_Model_buttonsOf_29, s_Model_buttonsOf_30, s_Model_buttonsOf_33, s_Model_buttonsOf_34, s_Model_buttonsOf_35, s_Model_buttonsOf_36, s_Model_buttonsOf_39, s_Model_buttonsOf_42, s_Model_buttonsOf_43, men_in h.nn, mside_in h.nn h2 hm', Option.bind_some, Option.toList_some, List.cons_append, List.nil_append, if_neg (nI_ge hm' (show 2 * n < 2 ^ 31 by omega)), g_73_0, e0, g74 (show m < 239 by omega), eb, nI_1, ih (m + 1) _ (show m + 1 + c = 2 * n by omega), Int32.add_zero, fold2, sidF, butF]
    generalize (if n ≤ m then (1 : Int32) else 0) = z
    by_cases q : z = s
    · simp only [if_pos q]
    · simp only [if_neg q]
theorem mbut_in {s : Int32} (h : Rw C a I 0 n) : rn F (lv + 1) 171 [.ref 73, .int s] (HH I J) = some (some (.int (fold2 (sidF n s (butF C a)) 0 (2 * n) 0)), HH I J) := by
  simp only [e_Model_buttonsOf, s_Model_buttonsOf_0, s_Model_buttonsOf_1, s_Model_buttonsOf_2, s_Model_buttonsOf_3, s_Model_buttonsOf_5, s_Model_buttonsOf_6 rcv_73, s_Model_buttonsOf_9, s_Model_buttonsOf_12, s_Model_buttonsOf_13, s_Model_buttonsOf_14, s_Model_buttonsOf_15 rcv_73, s_Model_buttonsOf_18, s_Model_buttonsOf_19, s_Model_buttonsOf_22, s_Model_buttonsOf_23, s_Model_buttonsOf_26, s_Model_buttonsOf_27, s_Model_buttonsOf_28, s_Model_buttonsOf_29, s_Model_buttonsOf_30, s_Model_buttonsOf_33, s_Model_buttonsOf_34, s_Model_buttonsOf_35, s_Model_buttonsOf_36, s_Model_buttonsOf_39, s_Model_buttonsOf_42, s_Model_buttonsOf_43]
  exact mbut_loop h (2 * n) 0 0 (by omega)
theorem copy_loop {f t N : Nat} (hf : f + N ≤ 239) (ht : t + N ≤ 239) (hd : f + N ≤ t ∨ t + N ≤ f) : ∀ (c k : Nat), k + c = N → ev F lv jm_Model_copyRow 3 [.ref 73, .int (nI f), .int (nI t), .int (nI N), .int (nI k)] [] (HH (upF I 74 t (fun j => I 74 (f + j)) k) J) = some (none, HH (upF I 74 t (fun j => I 74 (f + j)) N) J) := by
  intro c
  induction c with
  | zero =>
    intro k hk
    obtain rfl : k = N := by omega
    rw [s_Model_copyRow_3]
    simp only [s_Model_copyRow_0, s_Model_copyRow_1, s_Model_copyRow_5, s_Model_copyRow_6, s_Model_copyRow_9, s_Model_copyRow_10, s_Model_copyRow_13, s_Model_copyRow_14, s_Model_copyRow_16, s_Model_copyRow_17, s_Model_copyRow_18, s_Model_copyRow_21, s_Model_copyRow_22, s_Model_copyRow_24, s_Model_copyRow_25, s_Model_copyRow_26, s_Model_copyRow_27, s_Model_copyRow_30, s_Model_copyRow_33, if_pos (nI_le (Nat.le_refl k) (show k < 2 ^ 31 by omega))]
  | succ c ih =>
    intro k hk
    have er : upF I 74 t (fun j => I 74 (f + j)) k 74 (f + k) = I 74 (f + k) := upF_out (by omega)
    rw [s_Model_copyRow_3]
    simp only [s_Model_copyRow_0, s_Model_copyRow_1, s_Model_copyRow_5, s_Model_copyRow_6, s_Model_copyRow_9, s_Model_copyRow_10, s_Model_copyRow_13, s_Model_copyRow_14, s_Model_copyRow_16, s_Model_copyRow_17, s_Model_copyRow_18, s_Model_copyRow_21, s_Model_copyRow_22, s_Model_copyRow_24, s_Model_copyRow_25, s_Model_copyRow_26, s_Model_copyRow_27, s_Model_copyRow_30, s_Model_copyRow_33, if_neg (nI_ge (show k < N by omega) (show N < 2 ^ 31 by omega)), g_73_0, nI_add, g74 (show f + k < 239 by omega), er, p74 (show t + k < 239 by omega), nI_1]
    rw [upF_s rfl]
    exact ih (k + 1) (by omega)
theorem mcopy_in {f t N : Nat} (hf : f + N ≤ 239) (ht : t + N ≤ 239) (hd : f + N ≤ t ∨ t + N ≤ f) : rn F lv 122 [.ref 73, .int (nI f), .int (nI t), .int (nI N)] (HH I J) = some (none, HH (upF I 74 t (fun j => I 74 (f + j)) N) J) := by
  have l := copy_loop (F := F) (lv := lv) (I := I) (J := J) hf ht hd N 0 (by omega)
  rw [upF_0] at l
  simp only [e_Model_copyRow, s_Model_copyRow_0, s_Model_copyRow_1]
  exact l
end Mdl
