/-! ===== the next order ===== -/
def fkN (o : Nat → Nat) : Nat → Nat
  | 0 => 0
  | c + 1 => if o (c + 1) < o c then fkN o c else c + 1
def fqN (o : Nat → Nat) (k : Nat) : Nat → Nat
  | 0 => 0
  | q + 1 => if o (q + 1) < o k then fqN o k q else q + 1
def swN (o : Nat → Nat) (a b : Nat) : Nat → Nat := fun j => if j = b then o a else if j = a then o b else o j
def rvN : Nat → Nat → Nat → (Nat → Nat) → Nat → Nat
  | 0, _, _, o => o
  | c + 1, a, b, o => if a < b then rvN c (a + 1) (b - 1) (swN o a b) else o
def nxo (n : Nat) (o : Nat → Nat) : Option (Nat → Nat) :=
  if fkN o (n - 1) = 0 then none else some (rvN 4 (fkN o (n - 1) - 1 + 1) (n - 1) (swN o (fkN o (n - 1) - 1) (fqN o (fkN o (n - 1) - 1) (n - 1))))
/-- the order in cell 93 -/
def OR (X : Nat → Nat → Int32) (fm : Nat) (o : Nat → Nat) : Prop := ∀ j, j < 4 → X 93 j = nI (fm + o j) ∧ o j < 4
section Ord
variable {F : jx_F} {lv : Nat} {X : Nat → Nat → Int32} {J : Nat → Nat → Int64} {n fm : Nat} {o : Nat → Nat}
theorem g93 {α : Type} {k : Nat} {f : Int32 → Option α} (hk : k < 4) : jx_gi (HH X J) 0 93 (nI k) f = f (X 93 k) := by rw [gi_93, at_in hk (by decide), nI_clamp (by omega)]
theorem p93 {α : Type} {k : Nat} {x : Int32} {f : jx_H → Option α} (hk : k < 4) : jx_pi (HH X J) 0 93 (nI k) x f = f (HH (up2 X 93 k x) J) := by rw [pi_93, at_in hk (by decide), nI_clamp (by omega)]
theorem g94 {α : Type} {k : Nat} {f : Int32 → Option α} (hk : k < 4) : jx_gi (HH X J) 0 94 (nI k) f = f (X 94 k) := by rw [gi_94, at_in hk (by decide), nI_clamp (by omega)]
theorem p94 {α : Type} {k : Nat} {x : Int32} {f : jx_H → Option α} (hk : k < 4) : jx_pi (HH X J) 0 94 (nI k) x f = f (HH (up2 X 94 k x) J) := by rw [pi_94, at_in hk (by decide), nI_clamp (by omega)]
theorem swo_in {a b : Nat} (ha : a < 4) (hb : b < 4) (h : OR X fm o) : ∃ X', (∀ lv, rn F lv 152 [.ref 73, .int (nI a), .int (nI b)] (HH X J) = some (none, HH X' J)) ∧ OR X' fm (swN o a b) ∧ ∀ x, x ≠ 93 → X' x = X x := by
  refine ⟨up2 (up2 X 93 a (X 93 b)) 93 b (X 93 a), fun lv => ?_, ?_, fun x hx => by rw [up2_ne hx, up2_ne hx]⟩
  · simp only [e_Model_swapOrder, s_Model_swapOrder_0, s_Model_swapOrder_1, s_Model_swapOrder_4, s_Model_swapOrder_5, s_Model_swapOrder_6, s_Model_swapOrder_7, s_Model_swapOrder_8, s_Model_swapOrder_11, s_Model_swapOrder_12, s_Model_swapOrder_13, s_Model_swapOrder_16, s_Model_swapOrder_17, s_Model_swapOrder_18, s_Model_swapOrder_19, s_Model_swapOrder_20, s_Model_swapOrder_23, s_Model_swapOrder_24, s_Model_swapOrder_25, s_Model_swapOrder_26, g_73_27, g93 ha, g93 hb, p93 ha, p93 hb]
  · intro j hj
    unfold swN
    rw [up2_eq]
    by_cases w : j = b
    · subst w; rw [pk_us, if_pos rfl]; exact h a ha
    · rw [pk_un w, if_neg w, up2_eq]
      by_cases w2 : j = a
      · subst w2; rw [pk_us, if_pos rfl]; exact h b hb
      · rw [pk_un w2, if_neg w2]; exact h j hj
theorem or_lt {a b : Nat} (hf : fm ≤ 4) (h : OR X fm o) (ha : a < 4) (hb : b < 4) : (X 93 a < X 93 b ↔ o a < o b) ∧ (X 93 a ≤ X 93 b ↔ o a ≤ o b) := by
  have h1 := h a ha
  have h2 := h b hb
  rw [h1.1, h2.1]
  constructor
  · rw [nI_ltI (by omega) (by omega)]; omega
  · rw [nI_leI (by omega) (by omega)]; omega
theorem nxo_k (hf : fm ≤ 4) (h : OR X fm o) : ∀ c, c < 4 → ev F lv jm_Model_nextOrder 12 [.ref 73, .int (nI n), .int (nI c - 1), jx_junk, jx_junk, jx_junk] [] (HH X J) = ev F lv jm_Model_nextOrder 39 [.ref 73, .int (nI n), .int (nI (fkN o c) - 1), jx_junk, jx_junk, jx_junk] [] (HH X J) := by
  intro c
  induction c with
  | zero =>
    intro _
    rw [s_Model_nextOrder_12]
    simp only [s_Model_nextOrder_13, if_pos (show nI 0 - 1 < (0 : Int32) by decide), fkN]
  | succ c ih =>
    intro hc
    have e : nI (c + 1) - 1 = nI c := nI_pred c
    have l := or_lt hf h (show c < 4 by omega) (show c + 1 < 4 by omega)
    rw [s_Model_nextOrder_12, e]
    simp only [s_Model_nextOrder_13, if_neg (nI_pos (show c < 2 ^ 31 by omega)), s_Model_nextOrder_16, s_Model_nextOrder_17, s_Model_nextOrder_20, s_Model_nextOrder_21, s_Model_nextOrder_22, s_Model_nextOrder_23, s_Model_nextOrder_26, s_Model_nextOrder_27, s_Model_nextOrder_28, s_Model_nextOrder_29, s_Model_nextOrder_30, g_73_27, nI_1, g93 (show c < 4 by omega), g93 (show c + 1 < 4 by omega), l.2, fkN]
    by_cases q : o (c + 1) < o c
    · simp only [if_neg (show ¬ o c ≤ o (c + 1) by omega), if_pos q, s_Model_nextOrder_33, s_Model_nextOrder_36, nI_m1]
      exact ih (by omega)
    · simp only [if_pos (show o c ≤ o (c + 1) by omega), if_neg q]
      rw [e]
theorem nxo_q {k : Nat} (hf : fm ≤ 4) (h : OR X fm o) (hk : k < 4) : ∀ q, q < 4 → (∃ j, j ≤ q ∧ ¬ o j < o k) → ev F lv jm_Model_nextOrder 49 [.ref 73, .int (nI n), .int (nI k), .int (nI q), jx_junk, jx_junk] [] (HH X J) = ev F lv jm_Model_nextOrder 70 [.ref 73, .int (nI n), .int (nI k), .int (nI (fqN o k q)), jx_junk, jx_junk] [] (HH X J) := by
  intro q
  induction q with
  | zero =>
    intro _ hj
    obtain ⟨j, hj, hj'⟩ := hj
    obtain rfl : j = 0 := by omega
    have l := or_lt hf h (show k < 4 by omega) (show 0 < 4 by decide)
    rw [s_Model_nextOrder_49]
    simp only [s_Model_nextOrder_50, s_Model_nextOrder_53, s_Model_nextOrder_54, s_Model_nextOrder_55, s_Model_nextOrder_56, s_Model_nextOrder_59, s_Model_nextOrder_60, s_Model_nextOrder_61, g_73_27, g93 hk, g93 (show 0 < 4 by decide), l.2, if_pos (show o k ≤ o 0 by omega), fqN]
  | succ q ih =>
    intro hq hj
    have l := or_lt hf h (show k < 4 by omega) (show q + 1 < 4 by omega)
    rw [s_Model_nextOrder_49]
    simp only [s_Model_nextOrder_50, s_Model_nextOrder_53, s_Model_nextOrder_54, s_Model_nextOrder_55, s_Model_nextOrder_56, s_Model_nextOrder_59, s_Model_nextOrder_60, s_Model_nextOrder_61, g_73_27, g93 hk, g93 (show q + 1 < 4 by omega), l.2, fqN]
    by_cases w : o (q + 1) < o k
    · simp only [if_neg (show ¬ o k ≤ o (q + 1) by omega), if_pos w, s_Model_nextOrder_64, s_Model_nextOrder_67, nI_m1, nI_pred]
      refine ih (by omega) ?_
      obtain ⟨j, hj, hj'⟩ := hj
      refine ⟨j, ?_, hj'⟩
      by_cases e : j = q + 1
      · subst e; exact absurd w hj'
      · omega
    · simp only [if_pos (show o k ≤ o (q + 1) by omega), if_neg w]
theorem nxo_r {x2 x3 : Int32} : ∀ (c a b : Nat) (X : Nat → Nat → Int32) (o : Nat → Nat), OR X fm o → a < 4 + 4 → b < 4 → b < a + c → ∃ X', ev F (lv + 1) jm_Model_nextOrder 86 [.ref 73, .int (nI n), .int x2, .int x3, .int (nI a), .int (nI b)] [] (HH X J) = some (some (.int 1), HH X' J) ∧ OR X' fm (rvN c a b o) ∧ ∀ x, x ≠ 93 → X' x = X x := by
  intro c
  induction c with
  | zero =>
    intro a b X o h ha hb hc
    refine ⟨X, ?_, h, fun _ _ => rfl⟩
    rw [s_Model_nextOrder_86]
    simp only [s_Model_nextOrder_88, s_Model_nextOrder_90, if_pos (nI_le (show b ≤ a by omega) (show a < 2 ^ 31 by omega)), s_Model_nextOrder_110, ro_Model_nextOrder_111]
  | succ c ih =>
    intro a b X o h ha hb hc
    by_cases q : a < b
    · obtain ⟨X1, e1, h1, f1⟩ := swo_in (F := F) (J := J) (show a < 4 by omega) hb h
      obtain ⟨X2, e2, h2, f2⟩ := ih (a + 1) (b - 1) X1 (swN o a b) h1 (by omega) (by omega) (by omega)
      refine ⟨X2, ?_, ?_, fun x hx => (f2 x hx).trans (f1 x hx)⟩
      · obtain ⟨b', rfl⟩ : ∃ b', b = b' + 1 := ⟨b - 1, by omega⟩
        rw [s_Model_nextOrder_86]
        simp only [s_Model_nextOrder_88, s_Model_nextOrder_90, if_neg (nI_ge q (show b' + 1 < 2 ^ 31 by omega)), s_Model_nextOrder_93, s_Model_nextOrder_94, s_Model_nextOrder_96, s_Model_nextOrder_98 rcv_73, e1, Option.bind_some, Option.toList_none, List.nil_append, s_Model_nextOrder_101, s_Model_nextOrder_104, s_Model_nextOrder_107, nI_1, pk_m1]
        exact e2
      · unfold rvN; rw [if_pos q]; exact h2
    · refine ⟨X, ?_, by unfold rvN; rw [if_neg q]; exact h, fun _ _ => rfl⟩
      rw [s_Model_nextOrder_86]
      simp only [s_Model_nextOrder_88, s_Model_nextOrder_90, if_pos (nI_le (show b ≤ a by omega) (show a < 2 ^ 31 by omega)), s_Model_nextOrder_110, ro_Model_nextOrder_111]
theorem fk_spec : ∀ c, fkN o c ≤ c ∧ (fkN o c ≠ 0 → ¬ o (fkN o c) < o (fkN o c - 1)) := by
  intro c
  induction c with
  | zero => exact ⟨Nat.le_refl _, fun h => absurd rfl h⟩
  | succ c ih =>
    unfold fkN
    by_cases q : o (c + 1) < o c
    · rw [if_pos q]; exact ⟨by omega, ih.2⟩
    · rw [if_neg q]; exact ⟨Nat.le_refl _, fun _ => q⟩
theorem fq_le {k : Nat} : ∀ q, fqN o k q ≤ q := by
  intro q
  induction q with
  | zero => exact Nat.le_refl _
  | succ q ih => unfold fqN; split <;> omega
theorem n_m2 : ∀ n : Nat, n < 5 → 1 ≤ n → nI n - 2 = nI (n - 1) - 1 := by decide
theorem nxo_in (hf : fm ≤ 4) (e : X 74 17 = nI n) (h4 : 1 ≤ n ∧ n ≤ 4) (h : OR X fm o) : (nxo n o = none ∧ rn F (lv + 1) 153 [.ref 73] (HH X J) = some (some (.int 0), HH X J)) ∨ ∃ o' X', nxo n o = some o' ∧ rn F (lv + 1) 153 [.ref 73] (HH X J) = some (some (.int 1), HH X' J) ∧ OR X' fm o' ∧ ∀ x, x ≠ 93 → X' x = X x := by
  have e17 : (17 : Int32) = nI 17 := rfl
  have fs := fk_spec (o := o) (n - 1)
  have e2 : nI n - 2 = nI (n - 1) - 1 := n_m2 n (by omega) h4.1
  have l1 := nxo_k (F := F) (lv := lv + 1) (J := J) (n := n) hf h (n - 1) (by omega)
  by_cases q : fkN o (n - 1) = 0
  · refine Or.inl ⟨by unfold nxo; rw [if_pos q], ?_⟩
    rw [q] at l1
    simp only [e_Model_nextOrder, s_Model_nextOrder_0, s_Model_nextOrder_1, s_Model_nextOrder_4, s_Model_nextOrder_6, s_Model_nextOrder_7, s_Model_nextOrder_8, s_Model_nextOrder_9, s_Model_nextOrder_10, s_Model_nextOrder_11, g_73_0, e17, g74 (show 17 < 239 by decide), e, e2, l1]
    simp only [s_Model_nextOrder_39, s_Model_nextOrder_40, if_neg (show ¬ (0 : Int32) ≤ nI 0 - 1 by decide), s_Model_nextOrder_43, rz_Model_nextOrder_44]
  · obtain ⟨k, hk⟩ : ∃ k, fkN o (n - 1) = k + 1 := ⟨fkN o (n - 1) - 1, by omega⟩
    rw [hk] at l1 fs
    have hkn : k + 1 ≤ n - 1 := fs.1
    have hq0 := fs.2 (by omega)
    rw [show k + 1 - 1 = k by omega] at hq0
    have l2 := nxo_q (F := F) (lv := lv + 1) (J := J) (n := n) (k := k) hf h (by omega) (n - 1) (by omega) ⟨k + 1, hkn, hq0⟩
    have hq := fq_le (o := o) (k := k) (n - 1)
    obtain ⟨X1, e1, h1, f1⟩ := swo_in (F := F) (J := J) (show k < 4 by omega) (show fqN o k (n - 1) < 4 by omega) h
    obtain ⟨X2, e3, h2, f2⟩ := nxo_r (F := F) (lv := lv) (J := J) (n := n) (x2 := nI k) (x3 := nI (fqN o k (n - 1))) 4 (k + 1) (n - 1) X1 _ h1 (by omega) (by omega) (by omega)
    refine Or.inr ⟨rvN 4 (k + 1) (n - 1) (swN o k (fqN o k (n - 1))), X2, ?_, ?_, ?_, fun x hx => (f2 x hx).trans (f1 x hx)⟩
    · unfold nxo; rw [if_neg q, hk]; rfl
    · simp only [e_Model_nextOrder, s_Model_nextOrder_0, s_Model_nextOrder_1, s_Model_nextOrder_4, s_Model_nextOrder_6, s_Model_nextOrder_7, s_Model_nextOrder_8, s_Model_nextOrder_9, s_Model_nextOrder_10, s_Model_nextOrder_11, g_73_0, e17, g74 (show 17 < 239 by decide), e, e2, l1]
      simp only [s_Model_nextOrder_39, s_Model_nextOrder_40, nI_pred, if_pos (nI_pos' (show k < 2 ^ 31 by omega)), s_Model_nextOrder_45, s_Model_nextOrder_46, s_Model_nextOrder_47, s_Model_nextOrder_48, show nI n - 1 = nI (n - 1) from pk_sub (show 1 ≤ n by omega), l2]
      simp only [s_Model_nextOrder_70, s_Model_nextOrder_71, s_Model_nextOrder_72, s_Model_nextOrder_73 rcv_73, e1, Option.bind_some, Option.toList_none, List.nil_append, s_Model_nextOrder_76, s_Model_nextOrder_77, s_Model_nextOrder_78, s_Model_nextOrder_79, s_Model_nextOrder_81, s_Model_nextOrder_82, s_Model_nextOrder_83, s_Model_nextOrder_84, nI_1, show nI n - 1 = nI (n - 1) from pk_sub (show 1 ≤ n by omega)]
      exact e3
    · exact h2
end Ord
