/-! ===== keeps ===== -/
section Cal
variable {F : jx_F} {lv : Nat} {I : Nat → Nat → Int32} {J : Nat → Nat → Int64} {n : Nat}
theorem cd_loop {h : jx_H} {u v : Int32} : ∀ (f s g l : Nat) (w : Value), s + f = 64 → g < 2 ^ 31 → l < 2 ^ 31 → ev F lv jm_Main_commonDivisor 7 [.int u, .int v, .int (nI g), .int (nI l), .int (nI s), w] [] h = some (some (.int (nI (egN f g l))), h) := by
  have e64 : (64 : Int32) = nI 64 := rfl
  intro f
  induction f with
  | zero =>
    intro s g l w hs hg hl
    obtain rfl : s = 64 := by omega
    rw [s_Main_commonDivisor_7]
    simp only [s_Main_commonDivisor_9, s_Main_commonDivisor_11, e64, if_pos (nI_le (Nat.le_refl 64) (show 64 < 2 ^ 31 by decide)), s_Main_commonDivisor_34, s_Main_commonDivisor_35, egN]
  | succ f ih =>
    intro s g l w hs hg hl
    rw [s_Main_commonDivisor_7]
    simp only [s_Main_commonDivisor_9, s_Main_commonDivisor_11, e64, if_neg (nI_ge (show s < 64 by omega) (show 64 < 2 ^ 31 by decide)), s_Main_commonDivisor_14, s_Main_commonDivisor_15, egN]
    by_cases q : l = 0
    · subst q
      simp only [if_pos (show nI 0 = (0 : Int32) from rfl), if_true, s_Main_commonDivisor_34, s_Main_commonDivisor_35]
    · have hr : g % l < l := Nat.mod_lt _ (by omega)
      simp only [if_neg (nI_ne0 (show 0 < l by omega) hl), if_neg q, s_Main_commonDivisor_18, s_Main_commonDivisor_19, s_Main_commonDivisor_20, pk_rem hg (show 0 < l by omega) hl, s_Main_commonDivisor_21, s_Main_commonDivisor_23, s_Main_commonDivisor_24, s_Main_commonDivisor_25, s_Main_commonDivisor_27, s_Main_commonDivisor_28, s_Main_commonDivisor_31, nI_1]
      exact ih (s + 1) l (g % l) _ (by omega) hl (by omega)
theorem cd_in {h : jx_H} {u v : Nat} (hu : u < 2 ^ 31) (hv : v < 2 ^ 31) : rn F lv 99 [.int (nI u), .int (nI v)] h = some (some (.int (nI (Nat.gcd v u))), h) := by
  have e := eg_gcd 31 64 v u hu (by decide)
  have l := cd_loop (F := F) (lv := lv) (h := h) (u := nI u) (v := nI v) 64 0 v u jx_junk (by omega) hv hu
  rw [e] at l
  simp only [e_Main_commonDivisor, s_Main_commonDivisor_0, s_Main_commonDivisor_1, s_Main_commonDivisor_2, s_Main_commonDivisor_3, s_Main_commonDivisor_4, s_Main_commonDivisor_5]
  exact l
theorem aat_bN {a : Nat} {x : Int32} : ∀ m, m ≤ 8 → fold2 (aatF I a n x) 0 m 0 = nI (bN (fun j => decide (aimF I a n j = x)) m) := by
  intro m
  induction m with
  | zero => intro _; rfl
  | succ m ih =>
    intro hm
    rw [fold2_s, ih (by omega)]
    rw [show ∀ f, bN f (m + 1) = bN f m + (if f m = true then 2 ^ m else 0) from fun _ => rfl]
    unfold aatF
    by_cases q : aimF I a n m = x
    · simp only [q, if_true, decide_true]
      exact or_bit m (by omega) _ (bN_lt m)
    · simp only [q, if_false, decide_false, Bool.false_eq_true, Nat.add_zero]
theorem powI_N {x : Nat} : ∀ (c p : Nat), powI (nI x) c (nI p) = nI (p * x ^ c) := by
  intro c
  induction c with
  | zero => intro p; rw [Nat.pow_zero, Nat.mul_one]; rfl
  | succ c ih =>
    intro p
    show powI (nI x) c (nI p * nI x) = _
    rw [pk_mul, ih, Nat.pow_succ, Nat.mul_assoc, Nat.mul_comm x]
theorem powE_N {x e : Nat} (he : e < 2 ^ 31) : powE (nI x) (nI e) = nI (x ^ e) := by
  unfold powE
  rw [nI_clamp he, show (1 : Int32) = nI 1 from rfl, powI_N, Nat.one_mul]
theorem fold_sum {f : Nat → Int32 → Int32} {g : Nat → Nat} : ∀ N, (∀ i, i < N → ∀ b, f i b = b + nI (g i)) → fold2 f 0 N 0 = nI (sumN g N) := by
  intro N
  induction N with
  | zero => intro _; rfl
  | succ N ih =>
    intro h
    rw [fold2_s, ih (fun i hi => h i (by omega)), h N (by omega), nI_add]
    rfl
theorem pc_le {x : Nat} : ∀ k, pcK x k ≤ k := by
  intro k
  induction k with
  | zero => exact Nat.le_refl _
  | succ k ih => have := bt_lt (x := x) (o := k); unfold pcK; omega
/-- the ways of a set in which he stays -/
def gaN (I : Nat → Nat → Int32) (n m A q S : Nat) : Nat := if subK S A 8 = true then (if I 7 m ≤ fold2 (htsF I 5 (nI S)) 0 (2 * n) 0 then 0 else twN (10 - q) q A S 8) else 0
def gbN (A q S : Nat) : Nat := if subK S A 8 = true then twN (10 - q) q A S 8 else 0
theorem way_sum {m A q : Nat} (hA : A < 256) (hq : q ≤ 10) : fold2 (wayF I 5 n m (nI A) (nI q)) 0 256 0 = nI (sumN (gaN I n m A q) 256) := by
  refine fold_sum 256 (fun S hS b => ?_)
  have e10 : (10 : Int32) - nI q = nI (10 - q) := by rw [show (10 : Int32) = nI 10 from rfl, pk_sub hq]
  have p8 := pc_le (x := A) 8
  have s8 := pc_le (x := S) 8
  unfold wayF gaN
  by_cases w : subK S A 8 = true
  · have hp := sub_pc 8 w
    rw [if_pos ((sub_iff hS hA).2 w), if_pos w]
    by_cases w2 : I (5 + 2) m ≤ fold2 (htsF I 5 (nI S)) 0 (2 * n) 0
    · rw [if_pos w2, if_pos w2, show nI 0 = (0 : Int32) from rfl, Int32.add_zero]
    · rw [if_neg w2, if_neg w2, e10, bc_pc S hS, bc_pc A hA, pk_sub hp, powE_N (by omega), powE_N (by omega), pk_mul]
      rfl
  · rw [if_neg (fun e => w ((sub_iff hS hA).1 e)), if_neg w, show nI 0 = (0 : Int32) from rfl, Int32.add_zero]
theorem gb_sum {A q : Nat} (hq : q ≤ 10) : sumN (gbN A q) 256 = 10 ^ pcK A 8 := by
  have := sum_T (a := 10 - q) (b := q) (A := A) 8
  rw [show 10 - q + q = 10 by omega] at this
  exact this
theorem sum_cut {f : Nat → Nat} {A : Nat} (hA : A < 256) (h : ∀ S, A < S → S < 256 → f S = 0) : sumN f (A + 1) = sumN f 256 := by
  have e := sumN_add (f := f) (M := A + 1) (255 - A)
  rw [show A + 1 + (255 - A) = 256 by omega, sumN_0 (255 - A) (fun i hi => h _ (by omega) (by omega)), Nat.add_zero] at e
  exact e.symm
theorem tw_cut {a b A S k : Nat} (hk : k ≤ 8) (hA : A < 2 ^ k) (hS : S < 2 ^ k) : twN a b A S k = twN a b A S 8 := by
  have : ∀ x, x < 2 ^ k → ∀ d, pcK x (k + d) = pcK x k := by
    intro x hx d
    induction d with
    | zero => rfl
    | succ d ih => show pcK x (k + d) + btN x (k + d) = _; rw [ih, bt_hi hx (by omega)]; rfl
  have eA := this A hA (8 - k)
  have eS := this S hS (8 - k)
  rw [show k + (8 - k) = 8 by omega] at eA eS
  unfold twN
  rw [eA, eS]
/-! the class's loop: ten to the number of the aimers -/
theorem ten_loop {m q p x5 : Int32} {A : Nat} (hA : A < 256) : ∀ (c k : Nat), k + c = pcK A 8 → ev F (lv + 1) jm_Main_keeps 79 [.ref 0, .int m, .int q, .int p, .int (nI A), .int x5, .int (nI (10 ^ k)), .int (nI k)] [] (HH I J) = ev F (lv + 1) jm_Main_keeps 102 [.ref 0, .int m, .int q, .int p, .int (nI A), .int x5, .int (nI (10 ^ pcK A 8)), .int (nI (pcK A 8))] [] (HH I J) := by
  have p8 := pc_le (x := A) 8
  intro c
  induction c with
  | zero =>
    intro k hk
    obtain rfl : k = pcK A 8 := by omega
    rw [s_Main_keeps_79]
    simp only [s_Main_keeps_81, s_Main_keeps_83, bc_eq, bc_pc A hA, Option.bind_some, Option.toList_some, List.cons_append, List.nil_append, s_Main_keeps_86, if_pos (nI_le (Nat.le_refl (pcK A 8)) (show pcK A 8 < 2 ^ 31 by omega))]
  | succ c ih =>
    intro k hk
    have e : (10 : Int32) * nI (10 ^ k) = nI (10 ^ (k + 1)) := by rw [m10, Nat.pow_succ, Nat.mul_comm]
    rw [s_Main_keeps_79]
    simp only [s_Main_keeps_81, s_Main_keeps_83, bc_eq, bc_pc A hA, Option.bind_some, Option.toList_some, List.cons_append, List.nil_append, s_Main_keeps_86, if_neg (nI_ge (show k < pcK A 8 by omega) (show pcK A 8 < 2 ^ 31 by omega)), s_Main_keeps_89, s_Main_keeps_91, s_Main_keeps_93, e, s_Main_keeps_94, s_Main_keeps_96, s_Main_keeps_99, nI_1]
    exact ih (k + 1) (by omega)
/-! the Model's loops -/
theorem mk_at {m d : Nat} {q p : Int32} (hR : Rw I 5 I 0 n) (hd : I 5 4 = nI d) (hd' : d < 2 ^ 20) : ∀ (c o : Nat) (v : Int32), o + c = 2 * n → ev F (lv + 3) jm_Model_keeps 54 [.ref 73, .int (nI m), .int q, .int p, .int v, .int (nI o), jx_junk, jx_junk, jx_junk, jx_junk, jx_junk] [] (HH I J) = ev F (lv + 3) jm_Model_keeps 93 [.ref 73, .int (nI m), .int q, .int p, .int (fold2 (aatF I 5 n (nI m)) o c v), .int (nI (2 * n)), jx_junk, jx_junk, jx_junk, jx_junk, jx_junk] [] (HH I J) := by
  have h4 := hR.ms
  have ma := fun (o : Nat) (ho : o < 2 * n) => maim_in (F := F) (lv := lv) (J := J) hR ho hd hd'
  rw [show nI 0 = (0 : Int32) from rfl] at ma
  intro c
  induction c with
  | zero =>
    intro o v ho
    obtain rfl : o = 2 * n := by omega
    rw [s_Model_keeps_54]
    simp only [s_Model_keeps_56, s_Model_keeps_57 rcv_73, men_in hR.nn, Option.bind_some, Option.toList_some, List.cons_append, List.nil_append, s_Model_keeps_60, if_pos (nI_le (Nat.le_refl (2 * n)) (show 2 * n < 2 ^ 31 by omega)), fold2]
  | succ c ih =>
    intro o v ho
    have ho' : o < 2 * n := by omega
    rw [s_Model_keeps_54]
    simp only [s_Model_keeps_56, s_Model_keeps_57 rcv_73, men_in hR.nn, Option.bind_some, Option.toList_some, List.cons_append, List.nil_append, s_Model_keeps_60, if_neg (nI_ge ho' (show 2 * n < 2 ^ 31 by omega)), s_Model_keeps_63, s_Model_keeps_65, s_Model_keeps_66, s_Model_keeps_67, s_Model_keeps_69 rcv_73, ma o ho', s_Model_keeps_72, s_Model_keeps_73, fold2, aatF]
    by_cases w : aimF I 5 n o = nI m
    · simp only [if_pos w, s_Model_keeps_76, s_Model_keeps_77, s_Model_keeps_79, s_Model_keeps_80, s_Model_keeps_84, s_Model_keeps_85, s_Model_keeps_87, s_Model_keeps_90, nI_1]
      exact ih (o + 1) _ (by omega)
    · simp only [if_neg w, s_Model_keeps_83, s_Model_keeps_84, s_Model_keeps_85, s_Model_keeps_87, s_Model_keeps_90, or_0, nI_1]
      exact ih (o + 1) _ (by omega)
theorem mk_in {m A S q : Nat} {p x5 x6 : Int32} (hR : Rw I 5 I 0 n) (hA : A < 2 ^ (2 * n)) (hS : S < 256) (hq : q ≤ 10) (hs : subK S A 8 = true) : ∀ (c o : Nat) (hi : Int32), o + c = 2 * n → ev F (lv + 1) jm_Model_keeps 128 [.ref 73, .int (nI m), .int (nI q), .int p, .int (nI A), .int x5, .int x6, .int (nI S), .int (nI (twN (10 - q) q A S o)), .int hi, .int (nI o)] [] (HH I J) = ev F (lv + 1) jm_Model_keeps 212 [.ref 73, .int (nI m), .int (nI q), .int p, .int (nI A), .int x5, .int x6, .int (nI S), .int (nI (twN (10 - q) q A S (2 * n))), .int (fold2 (htsF I 5 (nI S)) o c hi), .int (nI (2 * n))] [] (HH I J) := by
  have h4 := hR.ms
  have hA8 : A < 256 := Nat.lt_of_lt_of_le hA (Nat.pow_le_pow_right (by decide) (show 2 * n ≤ 8 by omega))
  have e10 : (10 : Int32) - nI q = nI (10 - q) := by rw [show (10 : Int32) = nI 10 from rfl, pk_sub hq]
  have e18 : (18 : Int32) = nI 18 := rfl
  have hu := (sub_use 8).1 hs
  intro c
  induction c with
  | zero =>
    intro o hi ho
    obtain rfl : o = 2 * n := by omega
    rw [s_Model_keeps_128]
    simp only [s_Model_keeps_130, s_Model_keeps_131 rcv_73, men_in hR.nn, Option.bind_some, Option.toList_some, List.cons_append, List.nil_append, s_Model_keeps_134, if_pos (nI_le (Nat.le_refl (2 * n)) (show 2 * n < 2 ^ 31 by omega)), fold2]
  | succ c ih =>
    intro o hi ho
    have ho' : o < 2 * n := by omega
    have hb := hu o (by omega)
    have b2 := bt_lt (x := A) (o := o)
    have hsk : subK S A o = true := (sub_use o).2 (fun i hi => hu i (by omega))
    have hp := sub_pc o hsk
    have ek : I 74 (18 + o) = I 6 o := hR.k ho'
    have hh := has_bit S hS o (by omega)
    have ef : fold2 (htsF I 5 (nI S)) o (c + 1) hi = fold2 (htsF I 5 (nI S)) (o + 1) c (if btN S o = 0 then hi else hi + (if I 6 o = 2 then 2 else 1)) := by
      show fold2 (htsF I 5 (nI S)) (o + 1) c (htsF I 5 (nI S) o hi) = _
      unfold htsF
      rw [hh]
      congr 1
      by_cases w : btN S o = 0
      · rw [if_pos w, if_pos (by rw [show S / 2 ^ o % 2 = 0 from w]; rfl)]
      · have w1 : S / 2 ^ o % 2 = 1 := by have := bt_lt (x := S) (o := o); unfold btN at this w; omega
        rw [if_neg w, if_neg (by rw [w1]; decide)]
    have hasA := mhas_in (F := F) (lv := lv) (h := HH I J) hA8 (show o < 8 by omega)
    have hasS := mhas_in (F := F) (lv := lv) (h := HH I J) hS (show o < 8 by omega)
    have pA : pcK A (o + 1) = pcK A o + btN A o := rfl
    have pS : pcK S (o + 1) = pcK S o + btN S o := rfl
    rw [s_Model_keeps_128, ef]
    simp only [s_Model_keeps_130, s_Model_keeps_131 rcv_73, men_in hR.nn, Option.bind_some, Option.toList_some, List.cons_append, List.nil_append, s_Model_keeps_134, if_neg (nI_ge ho' (show 2 * n < 2 ^ 31 by omega)), s_Model_keeps_137, s_Model_keeps_139, s_Model_keeps_141, s_Model_keeps_143, hasA, s_Model_keeps_146]
    by_cases wA : btN A o = 1
    · rw [if_pos (show A / 2 ^ o % 2 = 1 from wA)]
      simp only [if_neg (show ¬ (1 : Int32) = 0 by decide), s_Model_keeps_153, s_Model_keeps_155, s_Model_keeps_157, hasS, Option.bind_some, Option.toList_some, List.cons_append, List.nil_append, s_Model_keeps_160]
      by_cases wS : btN S o = 1
      · have et : nI (twN (10 - q) q A S o) * nI (10 - q) = nI (twN (10 - q) q A S (o + 1)) := by
          rw [pk_mul]; congr 1
          unfold twN
          rw [pS, pA, wA, wS, Nat.pow_succ, show pcK A o + 1 - (pcK S o + 1) = pcK A o - pcK S o by omega, Nat.mul_right_comm]
        rw [if_pos (show S / 2 ^ o % 2 = 1 from wS)]
        simp only [if_neg (show ¬ (1 : Int32) = 0 by decide), s_Model_keeps_163, s_Model_keeps_165, s_Model_keeps_166, e10, s_Model_keeps_167, s_Model_keeps_171, et, s_Model_keeps_172, s_Model_keeps_174, s_Model_keeps_176, s_Model_keeps_178, s_Model_keeps_180, hasS, Option.bind_some, Option.toList_some, List.cons_append, List.nil_append, s_Model_keeps_183]
        rw [if_pos (show S / 2 ^ o % 2 = 1 from wS), if_neg (show ¬ btN S o = 0 by omega)]
        simp only [if_neg (show ¬ (1 : Int32) = 0 by decide), s_Model_keeps_186, s_Model_keeps_187, s_Model_keeps_190, s_Model_keeps_192, s_Model_keeps_194, s_Model_keeps_195, s_Model_keeps_196, g_73_0, e18, nI_add, g74 (show 18 + o < 239 by omega), ek, mhit_eq, Option.bind_some, Option.toList_some, List.cons_append, List.nil_append, s_Model_keeps_199, s_Model_keeps_203, s_Model_keeps_204, s_Model_keeps_206, s_Model_keeps_209, nI_1]
        exact ih (o + 1) _ (by omega)
      · have wS0 : btN S o = 0 := by omega
        have et : nI (twN (10 - q) q A S o) * nI q = nI (twN (10 - q) q A S (o + 1)) := by
          rw [pk_mul]; congr 1
          unfold twN
          rw [pS, pA, wA, wS0, Nat.add_zero, show pcK A o + 1 - pcK S o = pcK A o - pcK S o + 1 by omega, Nat.pow_succ, Nat.mul_assoc]
        rw [if_neg (show ¬ S / 2 ^ o % 2 = 1 from wS)]
        simp only [if_true, s_Model_keeps_170, s_Model_keeps_171, et, s_Model_keeps_172, s_Model_keeps_174, s_Model_keeps_176, s_Model_keeps_178, s_Model_keeps_180, hasS, Option.bind_some, Option.toList_some, List.cons_append, List.nil_append, s_Model_keeps_183]
        rw [if_neg (show ¬ S / 2 ^ o % 2 = 1 from wS), if_pos wS0]
        simp only [if_true, s_Model_keeps_202, s_Model_keeps_203, s_Model_keeps_204, s_Model_keeps_206, s_Model_keeps_209, Int32.add_zero, nI_1]
        exact ih (o + 1) _ (by omega)
    · have wA0 : btN A o = 0 := by omega
      have wS0 : btN S o = 0 := by omega
      have et : nI (twN (10 - q) q A S o) * 1 = nI (twN (10 - q) q A S (o + 1)) := by
        rw [Int32.mul_one]; congr 1
        unfold twN
        rw [pS, pA, wA0, wS0, Nat.add_zero, Nat.add_zero]
      rw [if_neg (show ¬ A / 2 ^ o % 2 = 1 from wA)]
      simp only [if_true, s_Model_keeps_149, s_Model_keeps_150, s_Model_keeps_171, et, s_Model_keeps_172, s_Model_keeps_174, s_Model_keeps_176, s_Model_keeps_178, s_Model_keeps_180, hasS, Option.bind_some, Option.toList_some, List.cons_append, List.nil_append, s_Model_keeps_183]
      rw [if_neg (show ¬ S / 2 ^ o % 2 = 1 by rw [show S / 2 ^ o % 2 = 0 from wS0]; decide), if_pos wS0]
      simp only [if_true, s_Model_keeps_202, s_Model_keeps_203, s_Model_keeps_204, s_Model_keeps_206, s_Model_keeps_209, Int32.add_zero, nI_1]
      exact ih (o + 1) _ (by omega)
end Cal
