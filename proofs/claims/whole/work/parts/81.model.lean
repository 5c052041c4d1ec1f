/-! ===== the Model: aimsAt ===== -/
/-- the step of the search for whom j, of kind k, aims at -/
def amS (C : Nat → Nat → Int32) (a n : Nat) (k : Int32) (j o : Nat) (p : Int32 × Int32) : Int32 × Int32 :=
  if (n ≤ j ↔ n ≤ o) then p else if C (a + 2) o ≤ 0 then p else if C (a + 3) j = nI o then p else if p.1 = -1 then (nI o, C (a + 2) o) else if k = 1 then (nI o, C (a + 2) o) else if k < 3 then p else if C (a + 2) o ≤ p.2 then p else (nI o, C (a + 2) o)
def amO (C : Nat → Nat → Int32) (a n : Nat) (k : Int32) (j : Nat) : Nat → Nat → Int32 × Int32 → Int32 × Int32
  | 0, _, p => p
  | c + 1, o, p => amO C a n k j c (o + 1) (amS C a n k j o p)
section Mdl
variable {F : jx_F} {lv : Nat} {I C : Nat → Nat → Int32} {J : Nat → Nat → Int64} {a b n : Nat}
theorem am_add {k : Int32} {j : Nat} : ∀ (c d o : Nat) (p : Int32 × Int32), amO C a n k j (c + d) o p = amO C a n k j d (o + c) (amO C a n k j c o p) := by
  intro c
  induction c with
  | zero => intro d o p; rw [Nat.zero_add]; rfl
  | succ c ih =>
    intro d o p
    rw [show c + 1 + d = (c + d) + 1 by omega]
    show amO C a n k j (c + d) (o + 1) _ = _
    rw [ih d (o + 1), show o + 1 + c = o + (c + 1) by omega]
    rfl
theorem am_skip {k : Int32} {j : Nat} : ∀ (c o : Nat) (p : Int32 × Int32), (∀ i, o ≤ i → i < o + c → (n ≤ j ↔ n ≤ i)) → amO C a n k j c o p = p := by
  intro c
  induction c with
  | zero => intro o p _; rfl
  | succ c ih =>
    intro o p h
    show amO C a n k j c (o + 1) (amS C a n k j o p) = p
    have e : amS C a n k j o p = p := by unfold amS; rw [if_pos (h o (by omega) (by omega))]
    rw [e]
    exact ih (o + 1) p (fun i h1 h2 => h i (by omega) (by omega))
/-- one who is not on j's side -/
theorem amS_o {k : Int32} {j o : Nat} {p : Int32 × Int32} (h : ¬ (n ≤ j ↔ n ≤ o)) : amS C a n k j o p = if C (a + 2) o ≤ 0 then p else if C (a + 3) j = nI o then p else if p.1 = -1 then (nI o, C (a + 2) o) else if k = 1 then (nI o, C (a + 2) o) else if k < 3 then p else if C (a + 2) o ≤ p.2 then p else (nI o, C (a + 2) o) := by
  unfold amS; rw [if_neg h]
theorem am_has {k : Int32} {j : Nat} (k1 : ¬ k = 1) (k3 : k < 3) : ∀ (c o : Nat) (p : Int32 × Int32), ¬ p.1 = -1 → amO C a n k j c o p = p := by
  intro c
  induction c with
  | zero => intro o p _; rfl
  | succ c ih =>
    intro o p h
    show amO C a n k j c (o + 1) (amS C a n k j o p) = p
    have e : amS C a n k j o p = p := by
      unfold amS
      simp only [if_neg h, if_neg k1, if_pos k3]
      split
      · rfl
      · split
        · rfl
        · split <;> rfl
    rw [e]
    exact ih (o + 1) p h
theorem am_fst {k : Int32} {j : Nat} (k1 : ¬ k = 1) (k3 : k < 3) : ∀ (c o : Nat), o + c ≤ 8 → (∀ i, o ≤ i → i < o + c → ¬ (n ≤ j ↔ n ≤ i)) → (amO C a n k j c o (-1, 0)).1 = fstO C a j o c := by
  intro c
  induction c with
  | zero => intro o _ _; rfl
  | succ c ih =>
    intro o h8 h
    show (amO C a n k j c (o + 1) (amS C a n k j o (-1, 0))).1 = _
    rw [amS_o (h o (by omega) (by omega))]
    unfold fstO
    by_cases h1 : C (a + 2) o ≤ 0
    · simp only [if_pos h1]; exact ih (o + 1) (by omega) (fun i a b => h i (by omega) (by omega))
    · simp only [if_neg h1]
      by_cases h2 : C (a + 3) j = nI o
      · simp only [if_pos h2]; exact ih (o + 1) (by omega) (fun i a b => h i (by omega) (by omega))
      · simp only [if_neg h2, if_true]
        rw [am_has k1 k3 _ _ _ (op_ne (show o < 2 ^ 31 by omega))]
theorem lst_front {j : Nat} : ∀ (c o : Nat), o + c ≤ 8 → lstO C a j o (c + 1) = if lstO C a j (o + 1) c = -1 then (if C (a + 2) o ≤ 0 then -1 else if C (a + 3) j = nI o then -1 else nI o) else lstO C a j (o + 1) c := by
  intro c
  induction c with
  | zero => intro o _; simp only [lstO, Nat.add_zero, if_true]
  | succ c ih =>
    intro o h8
    have e : lstO C a j o (c + 1 + 1) = if C (a + 2) (o + (c + 1)) ≤ 0 then lstO C a j o (c + 1) else if C (a + 3) j = nI (o + (c + 1)) then lstO C a j o (c + 1) else nI (o + (c + 1)) := rfl
    have e2 : lstO C a j (o + 1) (c + 1) = if C (a + 2) (o + 1 + c) ≤ 0 then lstO C a j (o + 1) c else if C (a + 3) j = nI (o + 1 + c) then lstO C a j (o + 1) c else nI (o + 1 + c) := rfl
    have e3 : o + (c + 1) = o + 1 + c := by omega
    rw [e, e2, e3, ih o (by omega)]
    by_cases h1 : C (a + 2) (o + 1 + c) ≤ 0
    · simp only [if_pos h1]
    · by_cases h2 : C (a + 3) j = nI (o + 1 + c)
      · simp only [if_neg h1, if_pos h2]
      · simp only [if_neg h1, if_neg h2, if_neg (op_ne (show o + 1 + c < 2 ^ 31 by omega))]
theorem am_lst {j : Nat} : ∀ (c o : Nat) (p : Int32 × Int32), o + c ≤ 8 → (∀ i, o ≤ i → i < o + c → ¬ (n ≤ j ↔ n ≤ i)) → (amO C a n 1 j c o p).1 = if lstO C a j o c = -1 then p.1 else lstO C a j o c := by
  intro c
  induction c with
  | zero => intro o p _ _; simp only [amO, lstO, if_true]
  | succ c ih =>
    intro o p h8 h
    show (amO C a n 1 j c (o + 1) (amS C a n 1 j o p)).1 = _
    rw [amS_o (h o (by omega) (by omega)), ih (o + 1) _ (by omega) (fun i a b => h i (by omega) (by omega)), lst_front c o (by omega)]
    by_cases h0 : lstO C a j (o + 1) c = -1
    · simp only [if_pos h0]
      by_cases h1 : C (a + 2) o ≤ 0
      · simp only [if_pos h1, if_true]
      · simp only [if_neg h1]
        by_cases h2 : C (a + 3) j = nI o
        · simp only [if_pos h2, if_true]
        · simp only [if_neg h2, if_true, if_neg (op_ne (show o < 2 ^ 31 by omega))]
          split <;> rfl
    · simp only [if_neg h0]
theorem am_ful {k : Int32} {j : Nat} (k1 : ¬ k = 1) (k3 : ¬ k < 3) : ∀ (c o : Nat) (p : Int32 × Int32), (p.1 = -1 → p.2 = 0) → (∀ i, o ≤ i → i < o + c → ¬ (n ≤ j ↔ n ≤ i)) → o + c ≤ 8 → (amO C a n k j c o p).1 = fulO C a j o c p.1 p.2 := by
  intro c
  induction c with
  | zero => intro o p _ _ _; rfl
  | succ c ih =>
    intro o p hp h h8
    show (amO C a n k j c (o + 1) (amS C a n k j o p)).1 = _
    rw [amS_o (h o (by omega) (by omega))]
    unfold fulO
    by_cases h1 : C (a + 2) o ≤ 0
    · simp only [if_pos h1]; exact ih (o + 1) p hp (fun i a b => h i (by omega) (by omega)) (by omega)
    · simp only [if_neg h1]
      by_cases h2 : C (a + 3) j = nI o
      · simp only [if_pos h2]; exact ih (o + 1) p hp (fun i a b => h i (by omega) (by omega)) (by omega)
      · simp only [if_neg h2, if_neg k1, if_neg k3]
        by_cases h3 : p.1 = -1
        · simp only [if_pos h3, hp h3, if_neg h1]
          exact ih (o + 1) (nI o, C (a + 2) o) (fun q => absurd q (op_ne (show o < 2 ^ 31 by omega))) (fun i a b => h i (by omega) (by omega)) (by omega)
        · simp only [if_neg h3]
          by_cases h4 : C (a + 2) o ≤ p.2
          · simp only [if_pos h4]; exact ih (o + 1) p hp (fun i a b => h i (by omega) (by omega)) (by omega)
          · simp only [if_neg h4]
            exact ih (o + 1) (nI o, C (a + 2) o) (fun q => absurd q (op_ne (show o < 2 ^ 31 by omega))) (fun i a b => h i (by omega) (by omega)) (by omega)
theorem am_seg {k : Int32} {j : Nat} (h4 : n ≤ 4) (hj : j < 2 * n) : (amO C a n k j (2 * n) 0 (-1, 0)).1 = (amO C a n k j n (oth n j) (-1, 0)).1 := by
  rw [show 2 * n = n + n by omega, am_add]
  unfold oth
  by_cases q : n ≤ j
  · simp only [if_pos q]
    rw [am_skip n (0 + n) _ (fun i a b => by omega)]
  · simp only [if_neg q]
    rw [am_skip n 0 _ (fun i a b => by omega), Nat.zero_add]
theorem kd_ne {x y : Nat} (hx : x ≤ 4) (hy : y ≤ 4) (h : x ≠ y) : ¬ nI x = nI y := by rw [nI_eq (by omega) (by omega)]; exact h
theorem am_aim {j d : Nat} (hw : Wf C a n) (hj : j < 2 * n) (hd : C a 4 = nI d) (hd' : d < 2 ^ 20) :
    (if C (a + 2) j ≤ 0 then -1 else if C (a + 1) j = 4 ∧ d % 2 = 1 then -1 else (amO C a n (C (a + 1) j) j (2 * n) 0 (-1, 0)).1) = aimF C a n j := by
  have h4 := hw.mn.2
  obtain ⟨bb, hb, eb⟩ := hw.bt j hj
  obtain ⟨k, hk, ek⟩ := hw.kd j hj
  have ho : oth n j + n ≤ 8 := by unfold oth; split <;> omega
  have hs : ∀ i, oth n j ≤ i → i < oth n j + n → ¬ (n ≤ j ↔ n ≤ i) := by
    intro i h1 h2
    unfold oth at h1 h2
    split at h1 <;> rename_i q <;> simp only [q, if_true, if_false] at h2 <;> omega
  have e0 : (C (a + 2) j ≤ 0) ↔ (C (a + 2) j = 0) := by
    rw [eb]
    by_cases q : bb = 0
    · subst q; simp [show nI 0 = (0 : Int32) from rfl]
    · simp only [nI_nle (show 0 < bb by omega) (show bb < 2 ^ 31 by omega), nI_ne0 (show 0 < bb by omega) (show bb < 2 ^ 31 by omega)]
  have ed : evD (C a 4) = if d % 2 = 1 then 1 else 0 := by
    have e2 : (2 : Int32) = nI 2 := rfl
    unfold evD
    rw [hd, nI_1, e2, pk_rem (show d + 1 < 2 ^ 31 by omega) (by decide) (by decide)]
    by_cases q : d % 2 = 1
    · rw [if_pos q, if_pos (by rw [show (d + 1) % 2 = 0 by omega]; rfl)]
    · rw [if_neg q, if_neg (by rw [show (d + 1) % 2 = 1 by omega]; decide)]
  unfold aimF
  rw [am_seg h4.2 hj]
  by_cases q0 : C (a + 2) j = 0
  · rw [if_pos (e0.2 q0), if_pos q0]
  · rw [if_neg (fun q => q0 (e0.1 q)), if_neg q0, ed, ek]
    match k, hk with
    | 0, _ =>
      have e : nI 0 = (0 : Int32) := rfl
      rw [am_fst (k := nI 0) (by decide) (by decide) n (oth n j) ho hs]
      simp only [e, aimS, show ¬ (0 : Int32) = 4 by decide, show ¬ (0 : Int32) = 1 by decide, show ¬ (0 : Int32) = 3 by decide, false_and, if_false, if_true]
    | 1, _ =>
      have e : nI 1 = (1 : Int32) := rfl
      rw [e, am_lst n (oth n j) (-1, 0) ho hs]
      simp only [aimS, show ¬ (1 : Int32) = 4 by decide, show ¬ (2 : Int32) = 1 by decide, false_and, if_false, if_true]
      split
      · rename_i q; rw [q]
      · rfl
    | 2, _ =>
      have e : nI 2 = (2 : Int32) := rfl
      rw [am_fst (k := nI 2) (by decide) (by decide) n (oth n j) ho hs]
      simp only [e, aimS, show ¬ (2 : Int32) = 4 by decide, show ¬ (2 : Int32) = 1 by decide, show ¬ (2 : Int32) = 3 by decide, false_and, if_false, if_true]
    | 3, _ =>
      have e : nI 3 = (3 : Int32) := rfl
      rw [am_ful (k := nI 3) (by decide) (by decide) n (oth n j) (-1, 0) (fun _ => rfl) hs ho]
      simp only [e, aimS, show ¬ (3 : Int32) = 4 by decide, show ¬ (3 : Int32) = 1 by decide, show ¬ (3 : Int32) = 2 by decide, false_and, if_false, if_true]
    | 4, _ =>
      have e : nI 4 = (4 : Int32) := rfl
      rw [am_ful (k := nI 4) (by decide) (by decide) n (oth n j) (-1, 0) (fun _ => rfl) hs ho]
      simp only [e, aimS, show ¬ (4 : Int32) = 1 by decide, show ¬ (4 : Int32) = 3 by decide, true_and, if_false, if_true]
      by_cases q : d % 2 = 1
      · simp only [if_pos q, show ¬ (1 : Int32) = 0 by decide, if_false, show ¬ (0 : Int32) = 1 by decide, show ¬ (0 : Int32) = 2 by decide, show ¬ (0 : Int32) = 3 by decide]
      · simp only [if_neg q, if_true, show ¬ (3 : Int32) = 1 by decide, show ¬ (3 : Int32) = 2 by decide, if_false]
end Mdl
