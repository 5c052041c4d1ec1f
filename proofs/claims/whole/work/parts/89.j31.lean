/-! ===== the Model: reads, to its end ===== -/
def rdR (n c : Nat) (C : Nat → Nat → Int32) (men k s e : Nat) : Int32 × (Nat → Nat → Int32) × Nat × Nat := if n ≤ s then (-1, C, s, e) else if C 14 s = 59 then rdO n c C men k s e else (nI s, C, s, e)
def RdOut (n : Nat) (R : Int32 × (Nat → Nat → Int32) × Nat × Nat) (C X X' : Nat → Nat → Int32) (dv ok : Int32) (s' men : Nat) : Prop :=
  (ok = 0 ∨ ok = 1) ∧ R.1 = (if ok = 0 then nI s' else -1) ∧ s' ≤ n ∧ RF X X' dv ∧ (ok = 1 → ∃ k', X' 73 15 = nI k' ∧ R.2.1 13 3 = nI k') ∧ (¬ dv = 0 → td C X men → ok = 1 → ∃ m', td R.2.1 X' m')
section Mtx
variable {F : jx_F} {lv : Nat} {J : Nat → Nat → Int64} {n : Nat}
theorem rd_step {c : Nat} {C : Nat → Nat → Int32} {men k s e : Nat} {a : Nat × Nat × Nat} (h : (clF C n men e).1 = some a) : rdO n (c + 1) C men k s e = rdR n c (up2 (actO C (some a)) 13 3 (nI (k + 1))) (menA men a) (k + 1) (nxS C n (clF C n men e).2.2) (nxE C n (clF C n men e).2.2) := by
  have e14 : up2 (actO C (some a)) 13 3 (nI (k + 1)) 14 = C 14 := by rw [up2_ne (by decide)]; exact act_ne (by omega)
  have e0 : rdO n (c + 1) C men k s e = (match (clF C n men e).1 with
    | none => (nI (clF C n men e).2.1, C, (clF C n men e).2.1, (clF C n men e).2.2)
    | some a =>
      if n ≤ nxS C n (clF C n men e).2.2 then (-1, up2 (actO C (some a)) 13 3 (nI (k + 1)), nxS C n (clF C n men e).2.2, nxE C n (clF C n men e).2.2)
      else if C 14 (nxS C n (clF C n men e).2.2) = 59 then rdO n c (up2 (actO C (some a)) 13 3 (nI (k + 1))) (menA men a) (k + 1) (nxS C n (clF C n men e).2.2) (nxE C n (clF C n men e).2.2)
      else (nI (nxS C n (clF C n men e).2.2), up2 (actO C (some a)) 13 3 (nI (k + 1)), nxS C n (clF C n men e).2.2, nxE C n (clF C n men e).2.2)) := rfl
  rw [e0, h]
  unfold rdR
  rw [e14]
theorem rd_none {c : Nat} {C : Nat → Nat → Int32} {men k s e : Nat} (h : (clF C n men e).1 = none) : rdO n (c + 1) C men k s e = (nI (clF C n men e).2.1, C, (clF C n men e).2.1, (clF C n men e).2.2) := by
  have e0 : rdO n (c + 1) C men k s e = (match (clF C n men e).1 with
    | none => (nI (clF C n men e).2.1, C, (clF C n men e).2.1, (clF C n men e).2.2)
    | some a =>
      if n ≤ nxS C n (clF C n men e).2.2 then (-1, up2 (actO C (some a)) 13 3 (nI (k + 1)), nxS C n (clF C n men e).2.2, nxE C n (clF C n men e).2.2)
      else if C 14 (nxS C n (clF C n men e).2.2) = 59 then rdO n c (up2 (actO C (some a)) 13 3 (nI (k + 1))) (menA men a) (k + 1) (nxS C n (clF C n men e).2.2) (nxE C n (clF C n men e).2.2)
      else (nI (nxS C n (clF C n men e).2.2), up2 (actO C (some a)) 13 3 (nI (k + 1)), nxS C n (clF C n men e).2.2, nxE C n (clF C n men e).2.2)) := rfl
  rw [e0, h]
theorem menA_4 {men : Nat} {a : Nat × Nat × Nat} (h4 : 1 ≤ men ∧ men ≤ 4) (ha : actOk men a) : 1 ≤ menA men a ∧ menA men a ≤ 4 := by
  unfold menA
  by_cases q : a.1 = 0
  · rw [if_pos q]; exact ha.2.1 q
  · rw [if_neg q]; exact h4
theorem mrd_loop {dv : Int32} (hn : n ≤ 200) : ∀ (c k : Nat) (C X : Nat → Nat → Int32) (men s e : Nat), k + c = 24 → pWord X → 1 ≤ men ∧ men ≤ 4 → X 73 4 = nI n → X 73 14 = nI men → X 73 16 = dv → X 73 15 = nI k → (∀ j, j < n → C 14 j = X 76 j) → C 13 3 = nI k → s ≤ n → e ≤ n →
    ∃ X' s' e' ok, ev F (lv + 6) jm_Model_reads 35 [.ref 73, .int dv, .int 1] [] (HH (MI X s e) J) = some (some (.int ok), HH (MI X' s' e') J) ∧ RdOut n (rdR n c C men k s e) C X X' dv ok s' men := by
  have e24 : (24 : Int32) = nI 24 := rfl
  have no : ∀ (Y : Nat → Nat → Int32) (s e : Nat), ev F (lv + 6) jm_Model_reads 35 [.ref 73, .int dv, .int 0] [] (HH (MI Y s e) J) = some (some (.int 0), HH (MI Y s e) J) := fun Y s e => by
    rw [s_Model_reads_35]
    simp only [s_Model_reads_36, if_true, s_Model_reads_105, rz_Model_reads_106]
  intro c
  induction c with
  | zero =>
    intro k C X men s e hk hW h4 en em ed ek hT hC hs he
    obtain rfl : k = 24 := by omega
    by_cases q : n ≤ s
    · refine ⟨X, s, e, 1, ?_, Or.inr rfl, ?_, hs, rf_refl, fun _ => ⟨24, ek, ?_⟩, fun _ ht _ => ⟨men, ?_⟩⟩
      · rw [s_Model_reads_35]
        simp only [s_Model_reads_36, if_neg (show ¬ (1 : Int32) = 0 by decide), s_Model_reads_39, s_Model_reads_40, s_Model_reads_43, s_Model_reads_44, s_Model_reads_47, g_73_4, g_73_12, mi_12, mi_4, en, if_pos (nI_le q (show s < 2 ^ 31 by omega)), s_Model_reads_105, ro_Model_reads_106]
      · unfold rdR; rw [if_pos q, if_neg (by decide)]
      · unfold rdR; rw [if_pos q]; exact hC
      · unfold rdR; rw [if_pos q]; exact ht
    · refine ⟨X, s, e, 0, ?_, Or.inl rfl, ?_, hs, rf_refl, fun h => absurd h (by decide), fun _ _ h => absurd h (by decide)⟩
      · rw [s_Model_reads_35]
        simp only [s_Model_reads_36, if_neg (show ¬ (1 : Int32) = 0 by decide), s_Model_reads_39, s_Model_reads_40, s_Model_reads_43, s_Model_reads_44, s_Model_reads_47, g_73_4, g_73_12, mi_12, mi_4, en, if_neg (nI_ge (show s < n by omega) (show n < 2 ^ 31 by omega)), s_Model_reads_50, s_Model_reads_51, s_Model_reads_54, s_Model_reads_56, g_73_15, mi_j (show 15 ≠ 12 by decide) (show 15 ≠ 13 by decide), ek, e24, if_pos (nI_le (Nat.le_refl 24) (show 24 < 2 ^ 31 by decide)), s_Model_reads_77, s_Model_reads_78, s_Model_reads_79, s_Model_reads_80, if_true]
        exact no X s e
      · unfold rdR; rw [if_neg q, if_pos rfl]
        split
        · rfl
        · rfl
  | succ c ih =>
    intro k C X men s e hk hW h4 en em ed ek hT hC hs he
    by_cases q : n ≤ s
    · refine ⟨X, s, e, 1, ?_, Or.inr rfl, ?_, hs, rf_refl, fun _ => ⟨k, ek, ?_⟩, fun _ ht _ => ⟨men, ?_⟩⟩
      · rw [s_Model_reads_35]
        simp only [s_Model_reads_36, if_neg (show ¬ (1 : Int32) = 0 by decide), s_Model_reads_39, s_Model_reads_40, s_Model_reads_43, s_Model_reads_44, s_Model_reads_47, g_73_4, g_73_12, mi_12, mi_4, en, if_pos (nI_le q (show s < 2 ^ 31 by omega)), s_Model_reads_105, ro_Model_reads_106]
      · unfold rdR; rw [if_pos q, if_neg (by decide)]
      · unfold rdR; rw [if_pos q]; exact hC
      · unfold rdR; rw [if_pos q]; exact ht
    · have hsn : s < n := by omega
      have run1 : ev F (lv + 6) jm_Model_reads 35 [.ref 73, .int dv, .int 1] [] (HH (MI X s e) J) = if X 76 s = 59 then ev F (lv + 6) jm_Model_reads 83 [.ref 73, .int dv, .int 1] [] (HH (MI X s e) J) else some (some (.int 0), HH (MI X s e) J) := by
        rw [s_Model_reads_35]
        simp only [s_Model_reads_36, if_neg (show ¬ (1 : Int32) = 0 by decide), s_Model_reads_39, s_Model_reads_40, s_Model_reads_43, s_Model_reads_44, s_Model_reads_47, g_73_4, g_73_12, mi_12, mi_4, en, if_neg (nI_ge hsn (show n < 2 ^ 31 by omega)), s_Model_reads_50, s_Model_reads_51, s_Model_reads_54, s_Model_reads_56, g_73_15, mi_j (show 15 ≠ 12 by decide) (show 15 ≠ 13 by decide), ek, e24, if_neg (nI_ge (show k < 24 by omega) (show 24 < 2 ^ 31 by decide)), s_Model_reads_59, s_Model_reads_60, s_Model_reads_63, s_Model_reads_64, s_Model_reads_67, s_Model_reads_68, s_Model_reads_70, g_73_3, g76 (show s < 200 by omega), mi_ne (show 76 ≠ 73 by decide)]
        by_cases w : X 76 s = 59
        · simp only [if_pos w, s_Model_reads_73, s_Model_reads_74, s_Model_reads_78, s_Model_reads_79, s_Model_reads_80, if_neg (show ¬ (1 : Int32) = 0 by decide)]
        · simp only [if_neg w, s_Model_reads_77, s_Model_reads_78, s_Model_reads_79, s_Model_reads_80, if_true]
          exact no X s e
      by_cases w : X 76 s = 59
      · have wC : C 14 s = 59 := by rw [hT s hsn]; exact w
        have hKC : ∀ j, j < n → (KX X) 14 j = C 14 j := fun j hj => (hT j hj).symm
        have ecl : clF (KX X) n men e = clF C n men e := clF_c hKC he
        obtain ⟨X1, r⟩ := mcl_in (F := F) (lv := lv) (J := J) (e := e) (dv := dv) hW h4 en em ed hn he
        rw [ecl] at r
        have hcl := cl_le (I := C) (men := men) he
        have run2 : ∀ (Y : Nat → Nat → Int32) (s2 e2 : Nat) (ok : Int32), rn F (lv + 5) 119 [.ref 73] (HH (MI X (nxS (KX X) n e) (nxE (KX X) n e)) J) = some (some (.int ok), HH (MI Y s2 e2) J) → Y 73 15 = nI k → ev F (lv + 6) jm_Model_reads 83 [.ref 73, .int dv, .int 1] [] (HH (MI X s e) J) = ev F (lv + 6) jm_Model_reads 35 [.ref 73, .int dv, .int ok] [] (HH (MI (up2 Y 73 15 (nI (k + 1))) s2 e2) J) := by
          intro Y s2 e2 ok hr hY
          simp only [s_Model_reads_83, s_Model_reads_84 rcv_73, mnxt_in en hn he, Option.bind_some, Option.toList_some, Option.toList_none, List.cons_append, List.nil_append, i10, i01, if_false, if_true, nI_add, nI_1, s_Model_reads_87, s_Model_reads_88 rcv_73, hr, s_Model_reads_91, s_Model_reads_92, s_Model_reads_93, s_Model_reads_94, g_73_15, mi_j (show 15 ≠ 12 by decide) (show 15 ≠ 13 by decide), hY, s_Model_reads_97, s_Model_reads_98, s_Model_reads_99, p_73_15, mi_f (show 15 ≠ 12 by decide) (show 15 ≠ 13 by decide), s_Model_reads_102]
        have eR : rdR n (c + 1) C men k s e = rdO n (c + 1) C men k s e := by unfold rdR; rw [if_neg q, if_pos wC]
        rw [run1, if_pos w, eR]
        cases qc : (clF C n men e).1 with
        | none =>
          rw [qc] at r
          obtain ⟨r1, r2⟩ := r
          refine ⟨up2 X1 73 15 (nI (k + 1)), _, _, 0, (run2 _ _ _ _ r1 (by rw [r2 73 (by decide)]; exact ek)).trans (no _ _ _), Or.inl rfl, ?_, hcl.1, rf_trans (rf_rn r2) rf_15, fun h => absurd h (by decide), fun _ _ h => absurd h (by decide)⟩
          rw [rd_none qc, if_pos rfl]
        | some a =>
          rw [qc] at r
          obtain ⟨r1, r2⟩ := r
          have ha := cl_ok h4.1 qc
          have h4' := menA_4 h4 ha
          have nS : nxS (KX X) n (clF C n men e).2.2 = nxS C n (clF C n men e).2.2 := nxS_c hKC hcl.2
          have nE : nxE (KX X) n (clF C n men e).2.2 = nxE C n (clF C n men e).2.2 := nxE_c hKC hcl.2
          rw [nS, nE] at r1
          have hz := nx_s (I := C) hcl.2
          have hy := nx_e (I := C) hcl.2
          have e15 : X1 73 15 = nI k := by rw [r2.2.1 15 (by decide)]; exact ek
          have e14 : up2 (actO C (some a)) 13 3 (nI (k + 1)) 14 = C 14 := by rw [up2_ne (by decide)]; exact act_ne (by omega)
          have x76 : up2 X1 73 15 (nI (k + 1)) 76 = X 76 := by rw [up2_ne (by decide)]; exact r2.1 76 (by decide) (by decide) (by decide)
          obtain ⟨X2, s2, e2, ok, g1, g2, g3, g4, g5, g6, g7⟩ := ih (k + 1) (up2 (actO C (some a)) 13 3 (nI (k + 1))) (up2 X1 73 15 (nI (k + 1))) (menA men a) (nxS C n (clF C n men e).2.2) (nxE C n (clF C n men e).2.2) (by omega)
            (pWord_c hW (fun w hw => by rw [up2_ne (by omega)]; exact r2.1 _ (by omega) (by omega) (by omega))) h4'
            (by rw [up2_eq, pk_un (by decide), r2.2.1 4 (by decide)]; exact en) (by rw [up2_eq, pk_un (by decide)]; exact r2.2.2.1) (by rw [up2_eq, pk_un (by decide), r2.2.1 16 (by decide)]; exact ed) (by rw [up2_eq, pk_us])
            (fun j hj => by rw [e14, x76]; exact hT j hj) (by rw [up2_eq, pk_us]) hz.2 hy.2
          refine ⟨X2, s2, e2, ok, (run2 _ _ _ _ r1 e15).trans g1, g2, ?_, g4, rf_trans (rf_trans (rf_rc h4.2 ha r2) rf_15) g5, ?_, ?_⟩
          · rw [rd_step qc]; exact g3
          · rw [rd_step qc]; exact g6
          · intro d ht o1
            rw [rd_step qc]
            refine g7 d ?_ o1
            have t1 := td_act (X' := up2 X1 73 15 (nI (k + 1))) ht ha (by rw [up2_ne (by decide), r2.2.2.2, if_neg d])
            exact td_c t1 (up2_ne (by decide)) (up2_ne (by decide)) (up2_ne (by decide)) (up2_ne (by decide)) rfl
      · have wC : ¬ C 14 s = 59 := by rw [hT s hsn]; exact w
        refine ⟨X, s, e, 0, by rw [run1, if_neg w], Or.inl rfl, ?_, hs, rf_refl, fun h => absurd h (by decide), fun _ _ h => absurd h (by decide)⟩
        unfold rdR; rw [if_neg q, if_neg wC, if_pos rfl]
end Mtx
