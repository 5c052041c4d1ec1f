/-! ===== the hits, eight bits a man ===== -/
/-- how often j is hit by the first m men -/
def cntN (I : Nat → Nat → Int32) (a n : Nat) : Nat → Nat → Nat
  | 0, _ => 0
  | m + 1, j => cntN I a n m j + (if aimF I a n m = nI j then (if I (a + 1) m = 2 then 2 else 1) else 0)
/-- eight numbers in one -/
def pk8 (f : Nat → Nat) : Nat := f 0 + 256 * f 1 + 256 ^ 2 * f 2 + 256 ^ 3 * f 3 + 256 ^ 4 * f 4 + 256 ^ 5 * f 5 + 256 ^ 6 * f 6 + 256 ^ 7 * f 7
theorem pk8_add {f : Nat → Nat} {t h : Nat} (ht : t < 8) : pk8 (fun j => f j + if t = j then h else 0) = pk8 f + 256 ^ t * h := by
  match t, ht with
  | 0, _ => simp [pk8]; omega
  | 1, _ => simp [pk8]; omega
  | 2, _ => simp [pk8]; omega
  | 3, _ => simp [pk8]; omega
  | 4, _ => simp [pk8]; omega
  | 5, _ => simp [pk8]; omega
  | 6, _ => simp [pk8]; omega
  | 7, _ => simp [pk8]; omega
theorem pk8_get {f : Nat → Nat} (h : ∀ j, f j < 256) {j : Nat} (hj : j < 8) : pk8 f / 2 ^ (8 * j) % 256 = f j := by
  have h0 := h 0
  have h1 := h 1
  have h2 := h 2
  have h3 := h 3
  have h4 := h 4
  have h5 := h 5
  have h6 := h 6
  have h7 := h 7
  unfold pk8
  match j, hj with
  | 0, _ => omega
  | 1, _ => omega
  | 2, _ => omega
  | 3, _ => omega
  | 4, _ => omega
  | 5, _ => omega
  | 6, _ => omega
  | 7, _ => omega
theorem cnt_le {I : Nat → Nat → Int32} {a n : Nat} : ∀ (m j : Nat), cntN I a n m j ≤ 2 * m := by
  intro m
  induction m with
  | zero => intro j; exact Nat.le_refl _
  | succ m ih =>
    intro j
    have := ih j
    unfold cntN
    split
    · split <;> omega
    · omega
theorem hit_sh : ∀ t : Nat, t < 8 → (1 : Int32).toInt64 <<< ((8 * nI t).toInt64 &&& 63) = lN (256 ^ t * 1) ∧ (2 : Int32).toInt64 <<< ((8 * nI t).toInt64 &&& 63) = lN (256 ^ t * 2) := by decide
theorem lN_u {L : Nat} : (lN L).toUInt64 = UInt64.ofNat L := by
  apply UInt64.toBitVec_inj.1
  show (Int64.ofNat L).toBitVec = _
  rfl
theorem lost_pk {L j : Nat} (hL : L < 2 ^ 64) (hj : j < 8) : lostB (lN L) j = nI (L / 2 ^ (8 * j) % 256) := by
  have hs : ∀ j : Nat, j < 8 → ((8 * nI j).toInt64.toUInt64 &&& Int64.toUInt64 63).toNat % 64 = 8 * j := by decide
  unfold lostB
  rw [pk_and _ 8 (by decide)]
  congr 1
  show (((lN L).toUInt64 >>> ((8 * nI j).toInt64.toUInt64 &&& Int64.toUInt64 63)).toInt64.toInt32).toBitVec.toNat % 256 = _
  have e : (((lN L).toUInt64 >>> ((8 * nI j).toInt64.toUInt64 &&& Int64.toUInt64 63)).toInt64.toInt32).toBitVec.toNat = (((lN L).toUInt64 >>> ((8 * nI j).toInt64.toUInt64 &&& Int64.toUInt64 63)).toNat) % 2 ^ 32 := by
    show (BitVec.signExtend 32 _).toNat = _
    rw [BitVec.signExtend_eq_setWidth_of_le _ (by decide), BitVec.toNat_setWidth]
    rfl
  rw [e, UInt64.toNat_shiftRight, hs j hj, lN_u, UInt64.toNat_ofNat_of_lt' (by simpa using hL), Nat.shiftRight_eq_div_pow]
  omega
section Hit
variable {I : Nat → Nat → Int32} {a n : Nat}
theorem fst_val {j : Nat} : ∀ (c o : Nat), fstO I a j o c = -1 ∨ ∃ t, t < o + c ∧ fstO I a j o c = nI t := by
  intro c
  induction c with
  | zero => intro o; exact Or.inl rfl
  | succ c ih =>
    intro o
    unfold fstO
    split
    · rcases ih (o + 1) with q | ⟨t, h1, h2⟩
      · exact Or.inl q
      · exact Or.inr ⟨t, by omega, h2⟩
    · split
      · rcases ih (o + 1) with q | ⟨t, h1, h2⟩
        · exact Or.inl q
        · exact Or.inr ⟨t, by omega, h2⟩
      · exact Or.inr ⟨o, by omega, rfl⟩
theorem lst_val {j o : Nat} : ∀ (c : Nat), lstO I a j o c = -1 ∨ ∃ t, t < o + c ∧ lstO I a j o c = nI t := by
  intro c
  induction c with
  | zero => exact Or.inl rfl
  | succ c ih =>
    unfold lstO
    split
    · rcases ih with q | ⟨t, h1, h2⟩
      · exact Or.inl q
      · exact Or.inr ⟨t, by omega, h2⟩
    · split
      · rcases ih with q | ⟨t, h1, h2⟩
        · exact Or.inl q
        · exact Or.inr ⟨t, by omega, h2⟩
      · exact Or.inr ⟨o + c, by omega, rfl⟩
theorem ful_val {j : Nat} {m : Int32} : ∀ (c o : Nat) (b m : Int32), (b = -1 ∨ ∃ t, t < o + c ∧ b = nI t) → (fulO I a j o c b m = -1 ∨ ∃ t, t < o + c ∧ fulO I a j o c b m = nI t) := by
  intro c
  induction c with
  | zero => intro o b m h; exact h
  | succ c ih =>
    intro o b m h
    have h' : b = -1 ∨ ∃ t, t < o + 1 + c ∧ b = nI t := by
      rcases h with q | ⟨t, h1, h2⟩
      · exact Or.inl q
      · exact Or.inr ⟨t, by omega, h2⟩
    have e : o + (c + 1) = o + 1 + c := by omega
    rw [e]
    unfold fulO
    split
    · exact ih (o + 1) b m h'
    · split
      · exact ih (o + 1) b m h'
      · split
        · exact ih (o + 1) b m h'
        · exact ih (o + 1) _ _ (Or.inr ⟨o, by omega, rfl⟩)
theorem aim_val {j : Nat} : aimF I a n j = -1 ∨ ∃ t, t < 2 * n ∧ aimF I a n j = nI t := by
  have ho : oth n j + n ≤ 2 * n := by unfold oth; split <;> omega
  unfold aimF
  split
  · exact Or.inl rfl
  · split
    · rcases fst_val (I := I) (a := a) (j := j) n (oth n j) with q | ⟨t, h1, h2⟩
      · exact Or.inl q
      · exact Or.inr ⟨t, by omega, h2⟩
    · split
      · rcases lst_val (I := I) (a := a) (j := j) (o := oth n j) n with q | ⟨t, h1, h2⟩
        · exact Or.inl q
        · exact Or.inr ⟨t, by omega, h2⟩
      · split
        · rcases ful_val (I := I) (a := a) (j := j) (m := 0) n (oth n j) (-1) 0 (Or.inl rfl) with q | ⟨t, h1, h2⟩
          · exact Or.inl q
          · exact Or.inr ⟨t, by omega, h2⟩
        · exact Or.inl rfl
theorem hitL_cnt (hn : Mn I a n) : ∀ (c m : Nat), m + c ≤ 8 → hitL I a n m c (lN (pk8 (cntN I a n m))) = lN (pk8 (cntN I a n (m + c))) := by
  have h4 := hn.2.2
  intro c
  induction c with
  | zero => intro m _; rfl
  | succ c ih =>
    intro m hm
    have e : hitL I a n m (c + 1) (lN (pk8 (cntN I a n m))) = hitL I a n (m + 1) c (if aimF I a n m < 0 then lN (pk8 (cntN I a n m)) else if 2 * I a 3 ≤ aimF I a n m then lN (pk8 (cntN I a n m)) else lN (pk8 (cntN I a n m)) + ((if I (a + 1) m = 2 then (2 : Int32) else 1).toInt64 <<< ((8 * aimF I a n m).toInt64 &&& 63))) := rfl
    have e2 : (if aimF I a n m < 0 then lN (pk8 (cntN I a n m)) else if 2 * I a 3 ≤ aimF I a n m then lN (pk8 (cntN I a n m)) else lN (pk8 (cntN I a n m)) + ((if I (a + 1) m = 2 then (2 : Int32) else 1).toInt64 <<< ((8 * aimF I a n m).toInt64 &&& 63))) = lN (pk8 (cntN I a n (m + 1))) := by
      rcases aim_val (I := I) (a := a) (n := n) (j := m) with q | ⟨t, ht, q⟩
      · rw [q, if_pos (by decide)]
        have : cntN I a n (m + 1) 0 = cntN I a n m 0 ∧ True := ⟨by show _ + _ = _; rw [q, if_neg (fun w => op_ne (show 0 < 2 ^ 31 by decide) w.symm), Nat.add_zero], trivial⟩
        have hz : ∀ j, j < 8 → cntN I a n (m + 1) j = cntN I a n m j := fun j hj => by
          show _ + _ = _
          rw [q, if_neg (fun w => op_ne (show j < 2 ^ 31 by omega) w.symm), Nat.add_zero]
        unfold pk8
        rw [hz 0 (by decide), hz 1 (by decide), hz 2 (by decide), hz 3 (by decide), hz 4 (by decide), hz 5 (by decide), hz 6 (by decide), hz 7 (by decide)]
      · rw [q, if_neg (nI_pos (show t < 2 ^ 31 by omega)), mn_2 hn, if_neg (nI_ge ht (show 2 * n < 2 ^ 31 by omega))]
        have hz : ∀ (h : Nat), h = (if I (a + 1) m = 2 then 2 else 1) → ∀ j, j < 8 → cntN I a n (m + 1) j = cntN I a n m j + if t = j then h else 0 := fun h eh j hj => by
          show _ + _ = _
          rw [q, eh]
          congr 1
          by_cases w : t = j
          · rw [if_pos w, if_pos (by rw [w])]
          · rw [if_neg w, if_neg (by rw [nI_eq (by omega) (by omega)]; exact w)]
        have hp : ∀ h, h = (if I (a + 1) m = 2 then 2 else 1) → pk8 (cntN I a n (m + 1)) = pk8 (cntN I a n m) + 256 ^ t * h := fun h eh => by
          rw [← pk8_add (f := cntN I a n m) (h := h) (show t < 8 by omega)]
          have z := hz h eh
          unfold pk8
          rw [z 0 (by decide), z 1 (by decide), z 2 (by decide), z 3 (by decide), z 4 (by decide), z 5 (by decide), z 6 (by decide), z 7 (by decide)]
        by_cases w : I (a + 1) m = 2
        · rw [if_pos w, (hit_sh t (by omega)).2, lN_add, hp 2 (by rw [if_pos w])]
        · rw [if_neg w, (hit_sh t (by omega)).1, lN_add, hp 1 (by rw [if_neg w])]
    rw [e, e2, ih (m + 1) (by omega), show m + 1 + c = m + (c + 1) by omega]
theorem pk8_lt {f : Nat → Nat} (h : ∀ j, f j < 256) : pk8 f < 2 ^ 64 := by
  have h0 := h 0
  have h1 := h 1
  have h2 := h 2
  have h3 := h 3
  have h4 := h 4
  have h5 := h 5
  have h6 := h 6
  have h7 := h 7
  unfold pk8
  omega
theorem lost_cnt {j : Nat} (hn : Mn I a n) (hj : j < 2 * n) : lostB (hitL I a n 0 (2 * n) 0) j = nI (cntN I a n (2 * n) j) := by
  have h4 := hn.2
  have hc : ∀ j, cntN I a n (2 * n) j < 256 := fun j => by have := cnt_le (I := I) (a := a) (n := n) (2 * n) j; omega
  have e : hitL I a n 0 (2 * n) 0 = lN (pk8 (cntN I a n (0 + 2 * n))) := hitL_cnt hn (2 * n) 0 (by omega)
  rw [e, Nat.zero_add, lost_pk (pk8_lt hc) (by omega), pk8_get hc (by omega)]
end Hit
