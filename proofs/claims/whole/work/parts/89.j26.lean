/-! ===== the Model: words, numbers ===== -/
section Mtx
variable {F : jx_F} {lv : Nat} {I X : Nat → Nat → Int32} {J : Nat → Nat → Int64} {s e n : Nat}
theorem lnW {α : Type} {w : Nat} {f : Int32 → Option α} (hw : w < 8) : jx_len (HH X J) (84 + w) f = f (nI (wdN w)) := by
  match w, hw with
  | 0, _ => exact ln_84
  | 1, _ => exact ln_85
  | 2, _ => exact ln_86
  | 3, _ => exact ln_87
  | 4, _ => exact ln_88
  | 5, _ => exact ln_89
  | 6, _ => exact ln_90
  | 7, _ => exact ln_91
theorem giW {α : Type} {w : Nat} {i : Int32} {f : Int32 → Option α} (hw : w < 8) : jx_gi (HH X J) 0 (84 + w) i f = jx_at i (wdN w) (f (X (84 + w) i.toNatClampNeg)) := by
  match w, hw with
  | 0, _ => exact gi_84
  | 1, _ => exact gi_85
  | 2, _ => exact gi_86
  | 3, _ => exact gi_87
  | 4, _ => exact gi_88
  | 5, _ => exact gi_89
  | 6, _ => exact gi_90
  | 7, _ => exact gi_91
theorem isw_loop {w : Nat} (hW : pWord X) (hw : w < 8) (hs : s + wdN w ≤ 200) : ∀ (c k : Nat), k + c = wdN w → ev F lv jm_Model_isWord 22 [.ref 73, .ref (84 + w), .int 1, .int (nI k)] [] (HH (MI X s e) J) = some (some (.int (eqC (X 76) s (wdL w) c k)), HH (MI X s e) J) := by
  have h8 := wd_le w hw
  intro c
  induction c with
  | zero =>
    intro k hk
    obtain rfl : k = wdN w := by omega
    rw [s_Model_isWord_22]
    simp only [s_Model_isWord_0, s_Model_isWord_1, s_Model_isWord_4, s_Model_isWord_5, s_Model_isWord_8, s_Model_isWord_9, s_Model_isWord_10, s_Model_isWord_11, s_Model_isWord_14, s_Model_isWord_15, s_Model_isWord_18, s_Model_isWord_19, s_Model_isWord_20, s_Model_isWord_21, s_Model_isWord_23, s_Model_isWord_24, s_Model_isWord_25, s_Model_isWord_28, s_Model_isWord_29, s_Model_isWord_32, s_Model_isWord_33, s_Model_isWord_36, s_Model_isWord_37, s_Model_isWord_40, s_Model_isWord_41, s_Model_isWord_42, s_Model_isWord_43, s_Model_isWord_44, s_Model_isWord_45, s_Model_isWord_46, s_Model_isWord_49, s_Model_isWord_50, s_Model_isWord_53, s_Model_isWord_54, s_Model_isWord_55, s_Model_isWord_58, s_Model_isWord_61, rz_Model_isWord_62, ro_Model_isWord_62, lnW hw, if_pos (nI_le (Nat.le_refl (wdN w)) (show wdN w < 2 ^ 31 by omega)), eqC]
  | succ c ih =>
    intro k hk
    have ew : MI X s e (84 + w) k = wdL w k := by rw [mi_ne (by omega)]; exact hW w hw k (by omega)
    rw [s_Model_isWord_22]
    simp only [s_Model_isWord_0, s_Model_isWord_1, s_Model_isWord_4, s_Model_isWord_5, s_Model_isWord_8, s_Model_isWord_9, s_Model_isWord_10, s_Model_isWord_11, s_Model_isWord_14, s_Model_isWord_15, s_Model_isWord_18, s_Model_isWord_19, s_Model_isWord_20, s_Model_isWord_21, s_Model_isWord_23, s_Model_isWord_24, s_Model_isWord_25, s_Model_isWord_28, s_Model_isWord_29, s_Model_isWord_32, s_Model_isWord_33, s_Model_isWord_36, s_Model_isWord_37, s_Model_isWord_40, s_Model_isWord_41, s_Model_isWord_42, s_Model_isWord_43, s_Model_isWord_44, s_Model_isWord_45, s_Model_isWord_46, s_Model_isWord_49, s_Model_isWord_50, s_Model_isWord_53, s_Model_isWord_54, s_Model_isWord_55, s_Model_isWord_58, s_Model_isWord_61, rz_Model_isWord_62, ro_Model_isWord_62, lnW hw, if_neg (nI_ge (show k < wdN w by omega) (show wdN w < 2 ^ 31 by omega)), if_neg (show ¬ (1 : Int32) = 0 by decide), g_73_3, g_73_12, mi_12, nI_add, g76 (show s + k < 200 by omega), mi_ne (show 76 ≠ 73 by decide), giW hw, at_in (show k < wdN w by omega) (show wdN w < 2 ^ 31 by omega), nI_clamp (show k < 2 ^ 31 by omega), ew, nI_1, eqC]
    by_cases q : X 76 (s + k) = wdL w k
    · simp only [if_pos q]
      exact ih (k + 1) (by omega)
    · simp only [if_neg q]
      rw [s_Model_isWord_22]
      simp only [s_Model_isWord_0, s_Model_isWord_1, s_Model_isWord_4, s_Model_isWord_5, s_Model_isWord_8, s_Model_isWord_9, s_Model_isWord_10, s_Model_isWord_11, s_Model_isWord_14, s_Model_isWord_15, s_Model_isWord_18, s_Model_isWord_19, s_Model_isWord_20, s_Model_isWord_21, s_Model_isWord_23, s_Model_isWord_24, s_Model_isWord_25, s_Model_isWord_28, s_Model_isWord_29, s_Model_isWord_32, s_Model_isWord_33, s_Model_isWord_36, s_Model_isWord_37, s_Model_isWord_40, s_Model_isWord_41, s_Model_isWord_42, s_Model_isWord_43, s_Model_isWord_44, s_Model_isWord_45, s_Model_isWord_46, s_Model_isWord_49, s_Model_isWord_50, s_Model_isWord_53, s_Model_isWord_54, s_Model_isWord_55, s_Model_isWord_58, s_Model_isWord_61, rz_Model_isWord_62, ro_Model_isWord_62, lnW hw, if_true]
      split <;> rfl
theorem isw_in {w : Nat} (hW : pWord X) (hw : w < 8) (hs : s ≤ e) (he : e ≤ 200) : rn F lv 112 [.ref 73, .ref (84 + w)] (HH (MI X s e) J) = some (some (.int (tokW (X 76) s e w)), HH (MI X s e) J) := by
  have h8 := wd_le w hw
  rw [e_Model_isWord]
  simp only [s_Model_isWord_0, s_Model_isWord_1, s_Model_isWord_4, s_Model_isWord_5, s_Model_isWord_8, s_Model_isWord_9, s_Model_isWord_10, s_Model_isWord_11, s_Model_isWord_14, s_Model_isWord_15, s_Model_isWord_18, s_Model_isWord_19, s_Model_isWord_20, s_Model_isWord_21, s_Model_isWord_23, s_Model_isWord_24, s_Model_isWord_25, s_Model_isWord_28, s_Model_isWord_29, s_Model_isWord_32, s_Model_isWord_33, s_Model_isWord_36, s_Model_isWord_37, s_Model_isWord_40, s_Model_isWord_41, s_Model_isWord_42, s_Model_isWord_43, s_Model_isWord_44, s_Model_isWord_45, s_Model_isWord_46, s_Model_isWord_49, s_Model_isWord_50, s_Model_isWord_53, s_Model_isWord_54, s_Model_isWord_55, s_Model_isWord_58, s_Model_isWord_61, rz_Model_isWord_62, ro_Model_isWord_62, g_73_12, g_73_13, mi_12, mi_13, pk_sub hs, lnW hw, nI_eq (show e - s < 2 ^ 31 by omega) (show wdN w < 2 ^ 31 by omega), tokW]
  by_cases q : e - s = wdN w
  · simp only [if_pos q]
    exact isw_loop hW hw (by omega) (wdN w) 0 (by omega)
  · simp only [if_neg q]
    rw [s_Model_isWord_22]
    simp only [s_Model_isWord_0, s_Model_isWord_1, s_Model_isWord_4, s_Model_isWord_5, s_Model_isWord_8, s_Model_isWord_9, s_Model_isWord_10, s_Model_isWord_11, s_Model_isWord_14, s_Model_isWord_15, s_Model_isWord_18, s_Model_isWord_19, s_Model_isWord_20, s_Model_isWord_21, s_Model_isWord_23, s_Model_isWord_24, s_Model_isWord_25, s_Model_isWord_28, s_Model_isWord_29, s_Model_isWord_32, s_Model_isWord_33, s_Model_isWord_36, s_Model_isWord_37, s_Model_isWord_40, s_Model_isWord_41, s_Model_isWord_42, s_Model_isWord_43, s_Model_isWord_44, s_Model_isWord_45, s_Model_isWord_46, s_Model_isWord_49, s_Model_isWord_50, s_Model_isWord_53, s_Model_isWord_54, s_Model_isWord_55, s_Model_isWord_58, s_Model_isWord_61, rz_Model_isWord_62, ro_Model_isWord_62, lnW hw, if_true]
    split <;> rfl
/-! one word at most -/
theorem eqC_use {T : Nat → Int32} {W : Nat → Int32} : ∀ (c i : Nat), ¬ eqC T s W c i = 0 → ∀ j, i ≤ j → j < i + c → T (s + j) = W j := by
  intro c
  induction c with
  | zero => intro i _ j h1 h2; omega
  | succ c ih =>
    intro i h j h1 h2
    unfold eqC at h
    split at h
    · rename_i q
      by_cases w : j = i
      · subst w; exact q
      · exact ih (i + 1) h j (by omega) (by omega)
    · exact absurd rfl h
theorem eqB_mk {f g : Nat → Int32} : ∀ k, (∀ j, j < k → f j = g j) → eqB f g k = true := by
  intro k
  induction k with
  | zero => intro _; rfl
  | succ k ih =>
    intro h
    unfold eqB
    rw [Bool.and_eq_true]
    exact ⟨decide_eq_true (h k (by omega)), ih (fun j hj => h j (by omega))⟩
theorem wd_inj : ∀ w : Nat, w < 8 → ∀ v : Nat, v < 8 → wdN w = wdN v → eqB (wdL w) (wdL v) (wdN w) = true → w = v := by decide
theorem tok_one {T : Nat → Int32} {w v : Nat} (hw : w < 8) (hv : v < 8) (h1 : ¬ tokW T s e w = 0) (h2 : ¬ tokW T s e v = 0) : w = v := by
  unfold tokW at h1 h2
  split at h1
  · rename_i q1
    split at h2
    · rename_i q2
      have u1 := eqC_use (wdN w) 0 h1
      have u2 := eqC_use (wdN v) 0 h2
      refine wd_inj w hw v hv (by omega) (eqB_mk _ (fun j hj => ?_))
      rw [← u1 j (by omega) (by omega), ← u2 j (by omega) (by omega)]
    · exact absurd rfl h2
  · exact absurd rfl h1
/-- which word: all the tests -/
theorem wd_none {T : Nat → Int32} : ∀ (c w : Nat), wdF T s e c w = none → ∀ v, w ≤ v → v < w + c → tokW T s e v = 0 := by
  intro c
  induction c with
  | zero => intro w _ v h1 h2; omega
  | succ c ih =>
    intro w h v h1 h2
    unfold wdF at h
    split at h
    · rename_i q
      by_cases e1 : v = w
      · subst e1; exact q
      · exact ih (w + 1) h v (by omega) (by omega)
    · exact absurd h (by simp)
theorem wd_some {T : Nat → Int32} {x : Nat} : ∀ (c w : Nat), wdF T s e c w = some x → ¬ tokW T s e x = 0 := by
  intro c
  induction c with
  | zero => intro w h; unfold wdF at h; exact absurd h (by simp)
  | succ c ih =>
    intro w h
    unfold wdF at h
    split at h
    · exact ih (w + 1) h
    · rename_i q
      obtain rfl := Option.some.inj h
      exact q
theorem tok_oth {T : Nat → Int32} {w v : Nat} (hw : w < 8) (hv : v < 8) (h1 : ¬ tokW T s e w = 0) (ne : v ≠ w) : tokW T s e v = 0 := by
  by_cases q : tokW T s e v = 0
  · exact q
  · exact absurd (tok_one hv hw q h1) ne
theorem mknd_in (hW : pWord X) (hs : s ≤ e) (he : e ≤ 200) : rn F (lv + 1) 114 [.ref 73] (HH (MI X s e) J) = some (some (.int (if tokW (X 76) s e 1 = 0 then (if tokW (X 76) s e 2 = 0 then (if tokW (X 76) s e 3 = 0 then (if tokW (X 76) s e 4 = 0 then (if tokW (X 76) s e 5 = 0 then -1 else 4) else 3) else 2) else 1) else 0)), HH (MI X s e) J) := by
  have i1 := isw_in (F := F) (lv := lv) (J := J) (w := 1) hW (by decide) hs he
  have i2 := isw_in (F := F) (lv := lv) (J := J) (w := 2) hW (by decide) hs he
  have i3 := isw_in (F := F) (lv := lv) (J := J) (w := 3) hW (by decide) hs he
  have i4 := isw_in (F := F) (lv := lv) (J := J) (w := 4) hW (by decide) hs he
  have i5 := isw_in (F := F) (lv := lv) (J := J) (w := 5) hW (by decide) hs he
  rw [show (84 + 1 : Nat) = 85 from rfl] at i1
  rw [show (84 + 2 : Nat) = 86 from rfl] at i2
  rw [show (84 + 3 : Nat) = 87 from rfl] at i3
  rw [show (84 + 4 : Nat) = 88 from rfl] at i4
  rw [show (84 + 5 : Nat) = 89 from rfl] at i5
  simp only [e_Model_kindHere, s_Model_kindHere_0, s_Model_kindHere_1, s_Model_kindHere_2, s_Model_kindHere_5 rcv_73, s_Model_kindHere_8, s_Model_kindHere_11, s_Model_kindHere_12, s_Model_kindHere_15, s_Model_kindHere_16, s_Model_kindHere_17, s_Model_kindHere_20 rcv_73, s_Model_kindHere_23, s_Model_kindHere_26, s_Model_kindHere_27, s_Model_kindHere_30, s_Model_kindHere_31, s_Model_kindHere_32, s_Model_kindHere_35 rcv_73, s_Model_kindHere_38, s_Model_kindHere_41, s_Model_kindHere_42, s_Model_kindHere_45, s_Model_kindHere_46, s_Model_kindHere_47, s_Model_kindHere_50 rcv_73, s_Model_kindHere_53, s_Model_kindHere_56, s_Model_kindHere_57, s_Model_kindHere_60, s_Model_kindHere_61, s_Model_kindHere_62, s_Model_kindHere_65 rcv_73, s_Model_kindHere_68, s_Model_kindHere_71, s_Model_kindHere_72, s_Model_kindHere_75, s_Model_kindHere_76, g_73_19, g_73_20, g_73_21, g_73_22, g_73_23, i1, i2, i3, i4, i5, Option.bind_some, Option.toList_some, List.cons_append, List.nil_append]
  split
  · split
    · split
      · split
        · split <;> rfl
        · rfl
      · rfl
    · rfl
  · rfl
theorem p83 {α : Type} {k : Nat} {x : Int32} {f : jx_H → Option α} (hk : k < 2) : jx_pi (HH X J) 0 83 (nI k) x f = f (HH (up2 X 83 k x) J) := by rw [pi_83, at_in hk (by decide), nI_clamp (by omega)]
theorem g83 {α : Type} {k : Nat} {f : Int32 → Option α} (hk : k < 2) : jx_gi (HH X J) 0 83 (nI k) f = f (X 83 k) := by rw [gi_83, at_in hk (by decide), nI_clamp (by omega)]
theorem kx_up {c k : Nat} {v : Int32} (hc : c ≠ 76) : KX (up2 X c k v) = KX X := by
  unfold KX; rw [up2_ne (fun q => hc q.symm)]
theorem mnum_in {k lo hi : Nat} (en : X 73 4 = nI n) (hn : n ≤ 200) (hs : s ≤ n) (he : e = endN (KX X) n s) (hk : k < 2) (hl : lo < 100) (hh : hi < 100) : rn F (lv + 3) 113 [.ref 73, .int (nI k), .int (nI lo), .int (nI hi)] (HH (MI X s e) J) = match numN (X 76) n s e lo hi with
    | none => some (some (.int 0), HH (MI X s e) J)
    | some v => some (some (.int 1), HH (MI (up2 X 83 k (nI v)) (nxS (KX X) n e) (nxE (KX X) n e)) J) := by
  have e2 : (2 : Int32) = nI 2 := rfl
  rw [e_Model_number]
  simp only [s_Model_number_0, s_Model_number_1, s_Model_number_4, s_Model_number_5, s_Model_number_8, g_73_4, g_73_12, mi_12, mi_4, en, nI_eq (show s < 2 ^ 31 by omega) (show n < 2 ^ 31 by omega)]
  by_cases q : n ≤ s
  · have : s = n := by omega
    simp only [if_pos this, s_Model_number_39, rz_Model_number_40, numN, if_pos q]
  · have hse := end_in (I := KX X) (show s < n by omega)
    rw [← he] at hse
    have hso : ∀ j, s ≤ j → j < e → sortI (X 76 j) = sortI (X 76 s) := fun j h1 h2 => end_sort (I := KX X) (n := n) (by omega) h1 (by rw [← he]; exact h2)
    simp only [if_neg (show ¬ s = n by omega), s_Model_number_11, s_Model_number_12, s_Model_number_15, s_Model_number_16, s_Model_number_19, s_Model_number_20, g_73_3, g_73_12, mi_12, g76 (show s < 200 by omega), mi_ne (show 76 ≠ 73 by decide), isDig_in, Option.bind_some, Option.toList_some, List.cons_append, List.nil_append, s_Model_number_23]
    by_cases q3 : sortI (X 76 s) = 2
    · obtain ⟨d, hd, ed⟩ := sort_2 q3
      simp only [if_pos q3, if_neg (show ¬ (1 : Int32) = 0 by decide)]
      simp only [s_Model_number_26, s_Model_number_27, s_Model_number_30, s_Model_number_31, s_Model_number_34, s_Model_number_35, s_Model_number_36, g_73_12, g_73_13, mi_12, mi_13, pk_sub (show s ≤ e by omega), e2]
      by_cases q2 : 2 < e - s
      · simp only [if_neg (nI_ge q2 (show e - s < 2 ^ 31 by omega)), s_Model_number_39, rz_Model_number_40, numN, if_neg q, if_pos q2]
      · simp only [if_pos (nI_le (show e - s ≤ 2 by omega) (show 2 < 2 ^ 31 by decide)), s_Model_number_41, s_Model_number_42, s_Model_number_45, s_Model_number_46, s_Model_number_49, s_Model_number_50, s_Model_number_52, s_Model_number_53, g_73_3, g_73_12, mi_12, g76 (show s < 200 by omega), mi_ne (show 76 ≠ 73 by decide), ed, (dg_d hd).1, s_Model_number_55, s_Model_number_56, s_Model_number_59, s_Model_number_60, s_Model_number_63, s_Model_number_64, s_Model_number_65, g_73_13, mi_13, pk_sub (show s ≤ e by omega)]
        have fin : ∀ v : Nat, v < 100 → (if e = s + 2 then 10 * dgN (X 76 s) + dgN (X 76 (s + 1)) else dgN (X 76 s)) = v → ev F (lv + 3) jm_Model_number 95 [.ref 73, .int (nI k), .int (nI lo), .int (nI hi), .int (nI v), jx_junk] [] (HH (MI X s e) J) = match numN (X 76) n s e lo hi with
            | none => some (some (.int 0), HH (MI X s e) J)
            | some v => some (some (.int 1), HH (MI (up2 X 83 k (nI v)) (nxS (KX X) n e) (nxE (KX X) n e)) J) := by
          intro v hv ev
          have en' : up2 X 83 k (nI v) 73 4 = nI n := by rw [up2_ne (by decide)]; exact en
          have nx := mnxt_in (F := F) (lv := lv) (X := up2 X 83 k (nI v)) (J := J) (s := s) (e := e) en' hn hse.2
          rw [kx_up (by decide)] at nx
          unfold numN
          rw [if_neg q, if_neg q2, if_pos q3, ev]
          simp only [s_Model_number_95, s_Model_number_97, s_Model_number_98, s_Model_number_99, s_Model_number_100, s_Model_number_101, s_Model_number_102, in_int, nI_ltI (show v < 2 ^ 31 by omega) (show lo < 2 ^ 31 by omega), nI_ltI (show hi < 2 ^ 31 by omega) (show v < 2 ^ 31 by omega), Option.bind_some, Option.toList_some, List.cons_append, List.nil_append]
          by_cases w1 : v < lo
          · simp only [if_pos w1, s_Model_number_105, s_Model_number_107, s_Model_number_109, if_true, s_Model_number_124, rz_Model_number_126]
          · by_cases w2 : hi < v
            · simp only [if_neg w1, if_pos w2, s_Model_number_105, s_Model_number_107, s_Model_number_109, if_true, s_Model_number_124, rz_Model_number_126]
            · simp only [if_neg w1, if_neg w2, s_Model_number_105, s_Model_number_107, s_Model_number_109, if_neg (show ¬ (1 : Int32) = 0 by decide), s_Model_number_112, s_Model_number_113, s_Model_number_116, s_Model_number_117, s_Model_number_119, g_73_17, p83 hk, mi_up (show 83 ≠ 73 by decide), s_Model_number_120, s_Model_number_121 rcv_73, nx, Option.bind_some, Option.toList_none, List.nil_append, s_Model_number_124, ro_Model_number_126]
        simp only [show (nI (e - s) = 2) ↔ e - s = 2 from nI_eq (show e - s < 2 ^ 31 by omega) (show 2 < 2 ^ 31 by decide)]
        by_cases q4 : e - s = 2
        · obtain ⟨d2, hd2, ed2⟩ := sort_2 ((hso (s + 1) (by omega) (by omega)).trans q3)
          have ev2 : 10 * nI d + nI (48 + d2) - 48 = nI (10 * d + d2) := by
            rw [show (10 : Int32) = nI 10 from rfl, show (48 : Int32) = nI 48 from rfl, pk_mul, nI_add, pk_sub (by omega)]; congr 1; omega
          rw [if_pos q4]
          simp only [s_Model_number_68, s_Model_number_70, s_Model_number_72, s_Model_number_73, s_Model_number_74, s_Model_number_77, s_Model_number_78, s_Model_number_81, s_Model_number_82, s_Model_number_83, s_Model_number_84, s_Model_number_85, s_Model_number_87, s_Model_number_88, s_Model_number_93, g_73_3, g_73_12, mi_12, nI_1, g76 (show s + 1 < 200 by omega), mi_ne (show 76 ≠ 73 by decide), ed2, ev2]
          exact fin (10 * d + d2) (by omega) (by rw [if_pos (by omega), ed, ed2, (dg_d hd).2, (dg_d hd2).2])
        · rw [if_neg q4]
          simp only [s_Model_number_91, s_Model_number_93]
          exact fin d (by omega) (by rw [if_neg (by omega), ed, (dg_d hd).2])
    · simp only [if_neg q3, if_true, s_Model_number_39, rz_Model_number_40, numN, if_neg q]
      by_cases q2 : 2 < e - s
      · simp only [if_pos q2]
      · simp only [if_neg q2]
end Mtx
