/-! ===== reads from its beginning; fault ===== -/
def rdB (X : Nat → Nat → Int32) (dv : Int32) (men : Nat) : Nat → Nat → Int32 := up2 (up2 (up2 X 73 16 dv) 73 15 1) 73 14 (nI men)
theorem some_nI (x : Int32) : ∃ s : Nat, x = nI s := ⟨x.toBitVec.toNat, by
  apply Int32.toBitVec_inj.1
  show x.toBitVec = BitVec.ofNat 32 x.toBitVec.toNat
  rw [BitVec.ofNat_toNat, BitVec.setWidth_eq]⟩
section Mtx
variable {F : jx_F} {lv : Nat} {J : Nat → Nat → Int64} {n men : Nat} {X C : Nat → Nat → Int32}
theorem rdB_ne {dv : Int32} {x : Nat} (h : x ≠ 73) : rdB X dv men x = X x := by unfold rdB; rw [up2_ne h, up2_ne h, up2_ne h]
theorem rdB_j {dv : Int32} {j : Nat} (h1 : j ≠ 14) (h2 : j ≠ 15) (h3 : j ≠ 16) : rdB X dv men 73 j = X 73 j := by unfold rdB; rw [up2_eq, pk_un h1, up2_eq, pk_un h2, up2_eq, pk_un h3]
theorem rdB_14 {dv : Int32} : rdB X dv men 73 14 = nI men := by unfold rdB; rw [up2_eq, pk_us]
theorem rdB_15 {dv : Int32} : rdB X dv men 73 15 = 1 := by unfold rdB; rw [up2_eq, pk_un (by decide), up2_eq, pk_us]
theorem rdB_16 {dv : Int32} : rdB X dv men 73 16 = dv := by unfold rdB; rw [up2_eq, pk_un (by decide), up2_eq, pk_un (by decide), up2_eq, pk_us]
theorem mreads_in {dv : Int32} {s : Nat} (hdv : dv = 0 ∨ dv = 1) (hW : pWord X) (h4 : 1 ≤ men ∧ men ≤ 4) (en : X 73 4 = nI n) (em : X 74 43 = nI men) (hn : n ≤ 200) (hT : ∀ j, j < n → C 14 j = X 76 j) (hC : C 13 3 = nI 0) :
    ∃ X' s' e' ok, rn F (lv + 6) 120 [.ref 73, .int dv] (HH X J) = some (some (.int ok), HH (MI X' s' e') J) ∧ RdOut n (rdO n 24 C men 0 s 0) C (rdB X dv men) X' dv ok s' men := by
  obtain ⟨s0, es⟩ := some_nI (X 73 12)
  have eM : up2 (up2 (up2 (up2 X 73 16 dv) 73 13 0) 73 15 1) 73 14 (nI men) = MI (rdB X dv men) s0 0 := by
    funext x
    by_cases hx : x = 73
    · subst hx
      funext y
      by_cases h12 : y = 12
      · subst h12; rw [mi_12, up2_eq, pk_un (by decide), up2_eq, pk_un (by decide), up2_eq, pk_un (by decide), up2_eq, pk_un (by decide)]; exact es
      · by_cases h13 : y = 13
        · subst h13; rw [mi_13, up2_eq, pk_un (by decide), up2_eq, pk_un (by decide), up2_eq, pk_us]; rfl
        · rw [mi_j h12 h13]
          by_cases h14 : y = 14
          · subst h14; rw [up2_eq, pk_us, rdB_14]
          · by_cases h15 : y = 15
            · subst h15; rw [up2_eq, pk_un h14, up2_eq, pk_us, rdB_15]
            · by_cases h16 : y = 16
              · subst h16; rw [up2_eq, pk_un h14, up2_eq, pk_un h15, up2_eq, pk_un h13, up2_eq, pk_us, rdB_16]
              · rw [up2_eq, pk_un h14, up2_eq, pk_un h15, up2_eq, pk_un h13, up2_eq, pk_un h16, rdB_j h14 h15 h16]
    · rw [mi_ne hx, rdB_ne hx, up2_ne hx, up2_ne hx, up2_ne hx, up2_ne hx]
  have bW : pWord (rdB X dv men) := pWord_c hW (fun w hw => rdB_ne (by omega))
  have ben : rdB X dv men 73 4 = nI n := by rw [rdB_j (by decide) (by decide) (by decide)]; exact en
  have bem : rdB X dv men 73 14 = nI men := by unfold rdB; rw [up2_eq, pk_us]
  have bed : rdB X dv men 73 16 = dv := by unfold rdB; rw [up2_eq, pk_un (by decide), up2_eq, pk_un (by decide), up2_eq, pk_us]
  have bek : rdB X dv men 73 15 = nI 1 := by unfold rdB; rw [up2_eq, pk_un (by decide), up2_eq, pk_us]; rfl
  have b76 : rdB X dv men 76 = X 76 := rdB_ne (by decide)
  have hT' : ∀ j, j < n → C 14 j = rdB X dv men 76 j := fun j hj => by rw [b76]; exact hT j hj
  have e43 : up2 (up2 (up2 X 73 16 dv) 73 13 0) 73 15 1 74 43 = nI men := by rw [up2_ne (by decide), up2_ne (by decide), up2_ne (by decide)]; exact em
  have cond : (((dv == 0) || (dv == 1)) && true) = true := by
    rcases hdv with rfl | rfl
    · rfl
    · rfl
  have run0 : rn F (lv + 6) 120 [.ref 73, .int dv] (HH X J) = ev F (lv + 6) jm_Model_reads 26 [.ref 73, .int dv, jx_junk] [] (HH (MI (rdB X dv men) s0 0) J) := by
    rw [← eM]
    simp only [e_Model_reads, s_Model_reads_0, s_Model_reads_1, s_Model_reads_2, cond, cond_true, p_73_16, s_Model_reads_5, s_Model_reads_6, s_Model_reads_7, p_73_13, s_Model_reads_10, s_Model_reads_11, s_Model_reads_12, p_73_15, s_Model_reads_15, s_Model_reads_16, s_Model_reads_17, s_Model_reads_20, s_Model_reads_22, g_73_0]
    rw [show (43 : Int32) = nI 43 from rfl, g74 (show 43 < 239 by decide), e43]
    simp only [s_Model_reads_23, p_73_14]
  generalize rdB X dv men = B at run0 bW ben bem bed bek b76 hT' ⊢
  have hKC : ∀ j, j < n → (KX B) 14 j = C 14 j := fun j hj => (hT' j hj).symm
  have ecl : clF (KX B) n men 0 = clF C n men 0 := clF_c hKC (Nat.zero_le _)
  obtain ⟨X1, r⟩ := mcl_in (F := F) (lv := lv) (J := J) (e := 0) (dv := dv) bW h4 ben bem bed hn (Nat.zero_le _)
  rw [ecl] at r
  have hcl := cl_le (I := C) (men := men) (e := 0) (Nat.zero_le n)
  have run2 : ∀ (Y : Nat → Nat → Int32) (s2 e2 : Nat) (ok : Int32), rn F (lv + 5) 119 [.ref 73] (HH (MI B (nxS (KX B) n 0) (nxE (KX B) n 0)) J) = some (some (.int ok), HH (MI Y s2 e2) J) → ev F (lv + 6) jm_Model_reads 26 [.ref 73, .int dv, jx_junk] [] (HH (MI B s0 0) J) = ev F (lv + 6) jm_Model_reads 35 [.ref 73, .int dv, .int ok] [] (HH (MI Y s2 e2) J) := by
    intro Y s2 e2 ok hr
    simp only [s_Model_reads_26, s_Model_reads_27 rcv_73, mnxt_in ben hn (Nat.zero_le n), Option.bind_some, Option.toList_some, Option.toList_none, List.cons_append, List.nil_append, i10, i01, if_false, if_true, nI_add, nI_1, s_Model_reads_30, s_Model_reads_31 rcv_73, hr, s_Model_reads_34]
  rw [run0]
  cases qc : (clF C n men 0).1 with
  | none =>
    rw [qc] at r
    obtain ⟨r1, r2⟩ := r
    refine ⟨X1, (clF C n men 0).2.1, (clF C n men 0).2.2, 0, (run2 _ _ _ _ r1).trans ?_, Or.inl rfl, ?_, hcl.1, rf_rn r2, fun h => absurd h (by decide), fun _ _ h => absurd h (by decide)⟩
    · rw [s_Model_reads_35]
      simp only [s_Model_reads_36, if_true, s_Model_reads_105, rz_Model_reads_106]
    · rw [rd_none qc, if_pos rfl]
  | some a =>
    rw [qc] at r
    obtain ⟨r1, r2⟩ := r
    have ha := cl_ok h4.1 qc
    have h4' := menA_4 h4 ha
    have nS : nxS (KX B) n (clF C n men 0).2.2 = nxS C n (clF C n men 0).2.2 := nxS_c hKC hcl.2
    have nE : nxE (KX B) n (clF C n men 0).2.2 = nxE C n (clF C n men 0).2.2 := nxE_c hKC hcl.2
    rw [nS, nE] at r1
    have hz := nx_s (I := C) hcl.2
    have hy := nx_e (I := C) hcl.2
    have e14 : up2 (actO C (some a)) 13 3 (nI (0 + 1)) 14 = C 14 := by rw [up2_ne (by decide)]; exact act_ne (by omega)
    have x76 : X1 76 = B 76 := r2.1 76 (by decide) (by decide) (by decide)
    obtain ⟨X2, s2, e2, ok, g1, g2, g3, g4, g5, g6, g7⟩ := mrd_loop (F := F) (lv := lv) (J := J) (dv := dv) hn 23 (0 + 1) (up2 (actO C (some a)) 13 3 (nI (0 + 1))) X1 (menA men a) (nxS C n (clF C n men 0).2.2) (nxE C n (clF C n men 0).2.2) (by omega)
      (pWord_c bW (fun w hw => r2.1 _ (by omega) (by omega) (by omega))) h4' (by rw [r2.2.1 4 (by decide)]; exact ben) r2.2.2.1 (by rw [r2.2.1 16 (by decide)]; exact bed) (by rw [r2.2.1 15 (by decide)]; exact bek)
      (fun j hj => by rw [e14, x76]; exact hT' j hj) (by rw [up2_eq, pk_us]) hz.2 hy.2
    refine ⟨X2, s2, e2, ok, (run2 _ _ _ _ r1).trans g1, g2, ?_, g4, rf_trans (rf_rc h4.2 ha r2) g5, ?_, ?_⟩
    · rw [rd_step qc]; exact g3
    · rw [rd_step qc]; exact g6
    · intro d ht o1
      rw [rd_step qc]
      refine g7 d ?_ o1
      have t1 := td_act (X' := X1) ht ha (by rw [r2.2.2.2, if_neg d])
      exact td_c t1 (up2_ne (by decide)) (up2_ne (by decide)) (up2_ne (by decide)) (up2_ne (by decide)) rfl
theorem rdO_fr : ∀ (c : Nat) (C : Nat → Nat → Int32) (men k s e : Nat), (∀ x, x ≠ 13 → (x < 15 ∨ 18 < x) → (rdO n c C men k s e).2.1 x = C x) ∧ ∀ j, j ≠ 3 → (rdO n c C men k s e).2.1 13 j = C 13 j := by
  intro c
  induction c with
  | zero => intro C men k s e; exact ⟨fun _ _ _ => rfl, fun _ _ => rfl⟩
  | succ c ih =>
    intro C men k s e
    cases q : (clF C n men e).1 with
    | none => rw [rd_none q]; exact ⟨fun _ _ _ => rfl, fun _ _ => rfl⟩
    | some a =>
      have f1 : ∀ x, x ≠ 13 → (x < 15 ∨ 18 < x) → up2 (actO C (some a)) 13 3 (nI (k + 1)) x = C x := fun x h1 h2 => by rw [up2_ne h1]; exact act_ne (by omega)
      have f2 : ∀ j, j ≠ 3 → up2 (actO C (some a)) 13 3 (nI (k + 1)) 13 j = C 13 j := fun j hj => by rw [up2_eq, pk_un hj, act_ne (by omega)]
      rw [rd_step q]
      unfold rdR
      split
      · exact ⟨f1, f2⟩
      · split
        · have i := ih (up2 (actO C (some a)) 13 3 (nI (k + 1))) (menA men a) (k + 1) (nxS C n (clF C n men e).2.2) (nxE C n (clF C n men e).2.2)
          exact ⟨fun x h1 h2 => (i.1 x h1 h2).trans (f1 x h1 h2), fun j hj => (i.2 j hj).trans (f2 j hj)⟩
        · exact ⟨f1, f2⟩
end Mtx
section Cal
variable {nn : Nat} {xs : Nat → Int32} {fm : Value} {lv : Nat} {I : Nat → Nat → Int32} {J : Nat → Nat → Int64}
theorem rdS_ne {x : Nat} (h : x ≠ 13) (h2 : x < 15 ∨ 18 < x) : rdS I x = I x := by
  unfold rdS; rw [up2_ne h, take_ne (by omega) (by omega) (by omega) (by omega)]
theorem rdS_13 {j : Nat} (h : j ≠ 3) : rdS I 13 j = I 13 j := by
  unfold rdS; rw [up2_eq, pk_un h, take_ne (by decide) (by decide) (by decide) (by decide)]
/-- the class's reading: its answer, what it leaves -/
theorem onto_kp {men n s : Nat} {s' e' : Nat} : Kp I (TI (rdO n 24 (rdS I) men 0 s 0).2.1 s' e') := by
  have f := rdO_fr (n := n) 24 (rdS I) men 0 s 0
  have e : ∀ x, x ≠ 13 → (x < 15 ∨ 18 < x) → TI (rdO n 24 (rdS I) men 0 s 0).2.1 s' e' x = I x := fun x h1 h2 => by rw [ti_ne h1, f.1 x h1 h2, rdS_ne h1 h2]
  refine ⟨fun x h1 h2 h3 h4 h5 h6 => e x h1 (by omega), ?_, ?_, ?_, ?_, ?_⟩
  · rw [ti_2, f.2 2 (by decide), rdS_13 (by decide)]
  · rw [e 73 (by decide) (by decide)]
  · rw [e 73 (by decide) (by decide)]
  · rw [e 73 (by decide) (by decide)]
  · intro y _; rw [e 74 (by decide) (by decide)]
theorem rd_kp {X X' : Nat → Nat → Int32} {dv : Int32} {men s' e' : Nat} (h : RF (rdB X dv men) X' dv) (d : dv = 0) : Kp X (MI X' s' e') := by
  obtain ⟨r1, r2, r3, r4⟩ := h
  refine ⟨fun x h1 h2 h3 h4 h5 h6 => by rw [mi_ne h2, r1 x h2 h3 h4, rdB_ne h2], by rw [mi_ne (by decide), r1 13 (by decide) (by decide) (by decide), rdB_ne (by decide)], ?_, ?_, ?_, ?_⟩
  · rw [mi_j (by decide) (by decide), r2 1 (by decide) (by decide), rdB_j (by decide) (by decide) (by decide)]
  · rw [mi_j (by decide) (by decide), r2 4 (by decide) (by decide), rdB_j (by decide) (by decide) (by decide)]
  · rw [mi_j (by decide) (by decide), r2 5 (by decide) (by decide), rdB_j (by decide) (by decide) (by decide)]
  · intro y _; rw [mi_ne (by decide), r3 d, rdB_ne (by decide)]
theorem st_fault (h : Inv I J) (hm : fm = .null ∨ ∃ k, fm = .retAddr k) : Alk (jx_fo nn xs fm) lv 65 121 [] I J := by
  obtain ⟨len, hl, t1, t2, t3⟩ := h.1
  obtain ⟨men, hw, _, h43, _, _, _, _⟩ := h.2.2.2.2.1
  obtain ⟨s, es⟩ := some_nI (I 13 4)
  have h4 := hw.mn.2
  have on := onto_in (nn := nn) (xs := xs) (lv := lv + 2) (J := J) hm hw.mn t1 hl es
  have kp1 := onto_kp (I := I) (men := men) (n := len) (s := s) (s' := (rdO len 24 (rdS I) men 0 s 0).2.2.1) (e' := (rdO len 24 (rdS I) men 0 s 0).2.2.2)
  have inv1 := inv_kp h kp1
  have f := rdO_fr (n := len) 24 (rdS I) men 0 s 0
  have c76 : TI (rdO len 24 (rdS I) men 0 s 0).2.1 (rdO len 24 (rdS I) men 0 s 0).2.2.1 (rdO len 24 (rdS I) men 0 s 0).2.2.2 76 = I 76 := by rw [ti_ne (by decide), f.1 76 (by decide) (by decide), rdS_ne (by decide) (by decide)]
  obtain ⟨X', s', e', ok, g1, g2, g3, g4, g5, g6, g7⟩ := mreads_in (F := jx_fo nn xs fm) (lv := lv + 3) (J := J) (C := rdS I) (X := TI (rdO len 24 (rdS I) men 0 s 0).2.1 (rdO len 24 (rdS I) men 0 s 0).2.2.1 (rdO len 24 (rdS I) men 0 s 0).2.2.2) (dv := 0) (s := s) (n := len) (men := men) (Or.inl rfl) inv1.2.2.2.1 h4 (by rw [kp1.2.2.2.1]; exact t2) (by rw [kp1.2.2.2.2.2 43 (by decide)]; exact h43) hl (fun j hj => by rw [c76, rdS_ne (by decide) (by decide)]; exact t3 j hj) (by unfold rdS; rw [up2_eq, pk_us]; rfl)
  refine ⟨(rdO len 24 (rdS I) men 0 s 0).1, TI (rdO len 24 (rdS I) men 0 s 0).2.1 (rdO len 24 (rdS I) men 0 s 0).2.2.1 (rdO len 24 (rdS I) men 0 s 0).2.2.2, MI X' s' e', J, ?_, ?_, inv_kp inv1 (rd_kp g5 rfl)⟩
  · simp only [e_Main_fault, s_Main_fault_0, s_Main_fault_1, s_Main_fault_4, s_Main_fault_5, s_Main_fault_8 rcv_13, s_Main_fault_11, g_0_0, g_0_3, on, Option.bind_some, Option.toList_some, Option.toList_none, List.cons_append, List.nil_append, i10, i01, if_false, if_true, nI_add, nI_1]
  · rcases g2 with rfl | rfl
    · rw [if_pos rfl] at g3
      simp only [e_Model_fault, s_Model_fault_0, s_Model_fault_1, s_Model_fault_2 rcv_73, s_Model_fault_5, s_Model_fault_8, s_Model_fault_9, s_Model_fault_12, s_Model_fault_13, s_Model_fault_16, g1, Option.bind_some, Option.toList_some, Option.toList_none, List.cons_append, List.nil_append, i10, i01, if_false, if_true, nI_add, nI_1, g_73_12, mi_12, g3]
    · rw [if_neg (by decide)] at g3
      simp only [e_Model_fault, s_Model_fault_0, s_Model_fault_1, s_Model_fault_2 rcv_73, s_Model_fault_5, s_Model_fault_8, s_Model_fault_9, s_Model_fault_12, s_Model_fault_13, s_Model_fault_16, g1, Option.bind_some, Option.toList_some, Option.toList_none, List.cons_append, List.nil_append, i10, i01, if_false, if_true, nI_add, nI_1, g3]
end Cal
