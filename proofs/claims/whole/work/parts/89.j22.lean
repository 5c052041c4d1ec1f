/-! ===== sets of aimers, ways, common divisors ===== -/
def btN (x o : Nat) : Nat := x / 2 ^ o % 2
def pcK (x : Nat) : Nat → Nat
  | 0 => 0
  | k + 1 => pcK x k + btN x k
def subK (S A : Nat) : Nat → Bool
  | 0 => true
  | k + 1 => subK S A k && Nat.ble (btN S k) (btN A k)
def sumN (f : Nat → Nat) : Nat → Nat
  | 0 => 0
  | N + 1 => sumN f N + f N
def twN (a b A S k : Nat) : Nat := a ^ pcK S k * b ^ (pcK A k - pcK S k)
theorem sumN_cg {f g : Nat → Nat} : ∀ N, (∀ i, i < N → f i = g i) → sumN f N = sumN g N := by
  intro N
  induction N with
  | zero => intro _; rfl
  | succ N ih => intro h; unfold sumN; rw [ih (fun i hi => h i (by omega)), h N (by omega)]
theorem sumN_add {f : Nat → Nat} {M : Nat} : ∀ N, sumN f (M + N) = sumN f M + sumN (fun i => f (M + i)) N := by
  intro N
  induction N with
  | zero => rfl
  | succ N ih => show sumN f (M + N) + f (M + N) = sumN f M + (sumN (fun i => f (M + i)) N + f (M + N)); rw [ih]; omega
theorem sumN_0 {f : Nat → Nat} : ∀ N, (∀ i, i < N → f i = 0) → sumN f N = 0 := by
  intro N
  induction N with
  | zero => intro _; rfl
  | succ N ih => intro h; unfold sumN; rw [ih (fun i hi => h i (by omega)), h N (by omega)]
theorem sumN_mul {f : Nat → Nat} {c : Nat} : ∀ N, sumN (fun i => c * f i) N = c * sumN f N := by
  intro N
  induction N with
  | zero => rfl
  | succ N ih => show sumN (fun i => c * f i) N + c * f N = c * (sumN f N + f N); rw [ih, Nat.mul_add]
theorem sumN_le {f g : Nat → Nat} : ∀ N, (∀ i, i < N → f i ≤ g i) → sumN f N ≤ sumN g N := by
  intro N
  induction N with
  | zero => intro _; exact Nat.le_refl _
  | succ N ih => intro h; unfold sumN; exact Nat.add_le_add (ih (fun i hi => h i (by omega))) (h N (by omega))
theorem bt_lt {x o : Nat} : btN x o < 2 := Nat.mod_lt _ (by decide)
theorem bt_hi {x o k : Nat} (h : x < 2 ^ k) (ho : k ≤ o) : btN x o = 0 := by
  unfold btN
  rw [Nat.div_eq_of_lt (Nat.lt_of_lt_of_le h (Nat.pow_le_pow_right (by decide) ho))]
theorem bt_up {S k o : Nat} (ho : o < k) : btN (2 ^ k + S) o = btN S o := by
  unfold btN
  obtain ⟨d, rfl⟩ : ∃ d, k = o + (d + 1) := ⟨k - o - 1, by omega⟩
  rw [Nat.pow_add, Nat.mul_add_div (Nat.two_pow_pos o), Nat.pow_succ]
  omega
theorem bt_top {S k : Nat} (h : S < 2 ^ k) : btN (2 ^ k + S) k = 1 := by
  unfold btN
  rw [Nat.add_comm, Nat.add_div_right _ (Nat.two_pow_pos k), Nat.div_eq_of_lt h]
theorem pc_cg {x y : Nat} : ∀ k, (∀ o, o < k → btN x o = btN y o) → pcK x k = pcK y k := by
  intro k
  induction k with
  | zero => intro _; rfl
  | succ k ih => intro h; unfold pcK; rw [ih (fun o ho => h o (by omega)), h k (by omega)]
theorem sub_cg {x y A : Nat} : ∀ k, (∀ o, o < k → btN x o = btN y o) → subK x A k = subK y A k := by
  intro k
  induction k with
  | zero => intro _; rfl
  | succ k ih => intro h; unfold subK; rw [ih (fun o ho => h o (by omega)), h k (by omega)]
theorem sub_pc {S A : Nat} : ∀ k, subK S A k = true → pcK S k ≤ pcK A k := by
  intro k
  induction k with
  | zero => intro _; exact Nat.le_refl _
  | succ k ih =>
    intro h
    unfold subK at h
    rw [Bool.and_eq_true] at h
    have h1 := ih h.1
    have h2 := Nat.le_of_ble_eq_true h.2
    unfold pcK
    omega
theorem sub_use {S A : Nat} : ∀ k, subK S A k = true ↔ ∀ o, o < k → btN S o ≤ btN A o := by
  intro k
  induction k with
  | zero => exact ⟨fun _ o h => absurd h (by omega), fun _ => rfl⟩
  | succ k ih =>
    unfold subK
    rw [Bool.and_eq_true, ih]
    constructor
    · intro h o ho
      by_cases w : o = k
      · subst w; exact Nat.le_of_ble_eq_true h.2
      · exact h.1 o (by omega)
    · intro h
      exact ⟨fun o ho => h o (by omega), Nat.ble_eq_true_of_le (h k (by omega))⟩
/-- the ways of all sets of aimers -/
theorem sum_T {a b A : Nat} : ∀ k, sumN (fun S => if subK S A k = true then twN a b A S k else 0) (2 ^ k) = (a + b) ^ pcK A k := by
  intro k
  induction k with
  | zero => rfl
  | succ k ih =>
    have e2 : 2 ^ (k + 1) = 2 ^ k + 2 ^ k := by rw [Nat.pow_succ]; omega
    have lo : ∀ S, S < 2 ^ k → (if subK S A (k + 1) = true then twN a b A S (k + 1) else 0) = b ^ btN A k * (if subK S A k = true then twN a b A S k else 0) := by
      intro S hS
      have b0 := bt_hi hS (Nat.le_refl k)
      have e : subK S A (k + 1) = subK S A k := by
        show (subK S A k && Nat.ble (btN S k) (btN A k)) = subK S A k
        rw [b0, show Nat.ble 0 (btN A k) = true from Nat.ble_eq_true_of_le (Nat.zero_le _), Bool.and_true]
      rw [e]
      by_cases q : subK S A k = true
      · have hp := sub_pc k q
        rw [if_pos q, if_pos q]
        unfold twN
        rw [show pcK S (k + 1) = pcK S k by show pcK S k + btN S k = _; rw [b0]; rfl, show pcK A (k + 1) - pcK S k = btN A k + (pcK A k - pcK S k) by show pcK A k + btN A k - pcK S k = _; omega, Nat.pow_add, Nat.mul_left_comm]
      · rw [if_neg q, if_neg q, Nat.mul_zero]
    have hi : ∀ S, S < 2 ^ k → (if subK (2 ^ k + S) A (k + 1) = true then twN a b A (2 ^ k + S) (k + 1) else 0) = (if btN A k = 1 then a else 0) * (if subK S A k = true then twN a b A S k else 0) := by
      intro S hS
      have b1 := bt_top hS
      have cg : ∀ o, o < k → btN (2 ^ k + S) o = btN S o := fun o ho => bt_up ho
      have e : subK (2 ^ k + S) A (k + 1) = (subK S A k && Nat.ble 1 (btN A k)) := by
        show (subK (2 ^ k + S) A k && Nat.ble (btN (2 ^ k + S) k) (btN A k)) = _
        rw [b1, sub_cg k cg]
      rw [e]
      have hb := bt_lt (x := A) (o := k)
      by_cases q1 : btN A k = 1
      · rw [q1, show Nat.ble 1 1 = true from rfl, Bool.and_true, if_pos rfl]
        by_cases q : subK S A k = true
        · have hp := sub_pc k q
          rw [if_pos q, if_pos q]
          unfold twN
          rw [show pcK (2 ^ k + S) (k + 1) = pcK S k + 1 by show pcK (2 ^ k + S) k + btN (2 ^ k + S) k = _; rw [b1, pc_cg k cg], show pcK A (k + 1) - (pcK S k + 1) = pcK A k - pcK S k by show pcK A k + btN A k - (pcK S k + 1) = _; omega, Nat.pow_succ, Nat.mul_comm (a ^ pcK S k) a, Nat.mul_assoc]
        · rw [if_neg q, if_neg q, Nat.mul_zero]
      · have q0 : btN A k = 0 := by omega
        rw [q0, show Nat.ble 1 0 = false from rfl, Bool.and_false, if_neg (by decide), if_neg (by decide), Nat.zero_mul]
    rw [e2, sumN_add, sumN_cg _ lo, sumN_cg _ hi, sumN_mul, sumN_mul, ih]
    have hb := bt_lt (x := A) (o := k)
    show _ = (a + b) ^ (pcK A k + btN A k)
    by_cases q1 : btN A k = 1
    · rw [q1, if_pos rfl, Nat.pow_one, Nat.pow_succ, ← Nat.add_mul, Nat.mul_comm, Nat.add_comm b a]
    · have q0 : btN A k = 0 := by omega
      rw [q0, if_neg (by decide), Nat.pow_zero, Nat.one_mul, Nat.zero_mul, Nat.add_zero, Nat.add_zero]
/-- the number of its bits -/
def vlK (x : Nat) : Nat → Nat
  | 0 => 0
  | k + 1 => vlK x k + 2 ^ k * btN x k
theorem vl_mod {x : Nat} : ∀ k, vlK x k = x % 2 ^ k := by
  intro k
  induction k with
  | zero => show 0 = x % 1; omega
  | succ k ih =>
    show vlK x k + 2 ^ k * btN x k = _
    rw [ih, Nat.pow_succ, Nat.mod_mul]
    rfl
theorem sub_le {S A : Nat} (hS : S < 256) (hA : A < 256) (h : subK S A 8 = true) : S ≤ A := by
  have h' := (sub_use 8).1 h
  have hm : ∀ k, k ≤ 8 → vlK S k ≤ vlK A k := by
    intro k
    induction k with
    | zero => intro _; exact Nat.le_refl _
    | succ k ih =>
      intro hk
      exact Nat.add_le_add (ih (by omega)) (Nat.mul_le_mul_left _ (h' k (by omega)))
  have := hm 8 (Nat.le_refl 8)
  rw [vl_mod, vl_mod, Nat.mod_eq_of_lt (by omega), Nat.mod_eq_of_lt (by omega)] at this
  exact this
theorem tb_bt {x i : Nat} : x.testBit i = decide (btN x i = 1) := by
  unfold btN
  exact Nat.testBit_eq_decide_div_mod_eq
theorem sub_iff {S A : Nat} (hS : S < 256) (hA : A < 256) : (nI S &&& (nI A ^^^ (-1)) = 0) ↔ subK S A 8 = true := by
  have em : (-1 : Int32).toBitVec = BitVec.allOnes 32 := by decide
  have eb : ∀ i, i < 32 → ((nI S &&& (nI A ^^^ (-1))).toBitVec.getLsbD i = (S.testBit i && !A.testBit i)) := by
    intro i hi
    rw [Int32.toBitVec_and, Int32.toBitVec_xor, em, BitVec.getLsbD_and, BitVec.getLsbD_xor, BitVec.getLsbD_allOnes]
    show ((BitVec.ofNat 32 S).getLsbD i && ((BitVec.ofNat 32 A).getLsbD i ^^ decide (i < 32))) = _
    rw [BitVec.getLsbD_ofNat, BitVec.getLsbD_ofNat]
    simp [hi]
  rw [sub_use]
  constructor
  · intro h o ho
    have := eb o (by omega)
    rw [h] at this
    have z : (0 : Int32).toBitVec.getLsbD o = false := by show (0#32).getLsbD o = false; simp
    rw [z, tb_bt, tb_bt] at this
    have h1 := bt_lt (x := S) (o := o)
    have h2 := bt_lt (x := A) (o := o)
    by_cases q1 : btN S o = 1
    · by_cases q2 : btN A o = 1
      · omega
      · rw [decide_eq_true q1, decide_eq_false q2] at this
        exact absurd this (by decide)
    · omega
  · intro h
    apply Int32.toBitVec_inj.1
    apply BitVec.eq_of_getLsbD_eq
    intro i hi
    rw [eb i hi]
    show _ = (0#32).getLsbD i
    rw [BitVec.getLsbD_zero, tb_bt, tb_bt]
    by_cases w : i < 8
    · have := h i w
      have h2 := bt_lt (x := A) (o := i)
      by_cases q1 : btN S i = 1
      · rw [decide_eq_true q1, decide_eq_true (show btN A i = 1 by omega)]; rfl
      · rw [decide_eq_false q1]; rfl
    · rw [decide_eq_false (show ¬ btN S i = 1 by rw [bt_hi (k := 8) hS (by omega)]; decide)]; rfl
theorem bc_pc : ∀ x : Nat, x < 256 → bcI (nI x) = nI (pcK x 8) := by decide +kernel
/-! common divisors -/
def egN : Nat → Nat → Nat → Nat
  | 0, g, _ => g
  | f + 1, g, l => if l = 0 then g else egN f l (g % l)
theorem eg_gcd : ∀ (k f g l : Nat), l < 2 ^ k → 2 * k ≤ f → egN f g l = Nat.gcd g l := by
  intro k
  induction k with
  | zero =>
    intro f g l hl hf
    obtain rfl : l = 0 := by omega
    cases f with
    | zero => exact (Nat.gcd_zero_right g).symm
    | succ f => show (if (0 : Nat) = 0 then g else _) = _; rw [if_pos rfl, Nat.gcd_zero_right]
  | succ k ih =>
    intro f g l hl hf
    obtain ⟨f, rfl⟩ : ∃ f', f = f' + 2 := ⟨f - 2, by omega⟩
    show (if l = 0 then g else egN (f + 1) l (g % l)) = _
    by_cases q : l = 0
    · subst q; rw [if_pos rfl, Nat.gcd_zero_right]
    · rw [if_neg q]
      show (if g % l = 0 then l else egN f (g % l) (l % (g % l))) = _
      by_cases q2 : g % l = 0
      · rw [if_pos q2, Nat.gcd_comm, Nat.gcd_rec, q2, Nat.gcd_zero_left]
      · have hr : g % l < l := Nat.mod_lt _ (by omega)
        have h2 : l % (g % l) < 2 ^ k := by
          have a1 : l % (g % l) < g % l := Nat.mod_lt _ (by omega)
          have a2 : l % (g % l) + (g % l) ≤ l := by
            have d := Nat.div_add_mod l (g % l)
            have d1 : 1 ≤ l / (g % l) := Nat.div_pos (by omega) (by omega)
            have d2 : g % l * 1 ≤ g % l * (l / (g % l)) := Nat.mul_le_mul_left _ d1
            omega
          rw [Nat.pow_succ] at hl
          omega
        rw [if_neg q2, ih f (g % l) (l % (g % l)) h2 (by omega)]
        rw [Nat.gcd_comm (g % l) _, ← Nat.gcd_rec, ← Nat.gcd_rec, Nat.gcd_comm]
