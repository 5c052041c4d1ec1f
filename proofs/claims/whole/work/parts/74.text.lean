/-! ===== Text: readOnto ===== -/
/-- what a clause may say to an army of men -/
def actOk (men : Nat) (a : Nat × Nat × Nat) : Prop := a.1 ≤ 7 ∧ (a.1 = 0 → 1 ≤ a.2.1 ∧ a.2.1 ≤ 4) ∧ (a.1 ≠ 0 → a.2.1 < 2 * men) ∧ (a.1 = 6 → a.2.2 ≤ 6) ∧ (a.1 = 7 → a.2.2 < 2 * men)
/-- the men behind a clause -/
def menA (men : Nat) (a : Nat × Nat × Nat) : Nat := if a.1 = 0 then a.2.1 else men
section Txt
variable {F : jx_F} {nn : Nat} {xs : Nat → Int32} {fm : Value} {lv : Nat} {I : Nat → Nat → Int32} {J : Nat → Nat → Int64} {s e n : Nat}
theorem cl_ok {men : Nat} {a : Nat × Nat × Nat} (h1 : 1 ≤ men) (h : (clF I n men e).1 = some a) : actOk men a := by
  unfold clF at h
  split at h
  · exact absurd h (by simp)
  · rename_i w hw
    have hw' := wdF_lt _ _ hw
    split at h
    · split at h
      · exact absurd h (by simp)
      · rename_i v hv
        have := num_lt hv
        obtain rfl := Option.some.inj h
        exact ⟨by simp, fun _ => by simpa using this, fun q => absurd rfl q, fun q => absurd q (by simp), fun q => absurd q (by simp)⟩
    · rename_i w0
      split at h
      · exact absurd h (by simp)
      · rename_i m hm
        have hm' := num_lt hm
        split at h
        · rename_i w5
          obtain rfl := Option.some.inj h
          exact ⟨by simp; omega, fun q => absurd q w0, fun _ => by simp; omega, fun q => absurd q (by simp; omega), fun q => absurd q (by simp; omega)⟩
        · split at h
          · split at h
            · exact absurd h (by simp)
            · rename_i b hb
              have hb' := num_lt hb
              obtain rfl := Option.some.inj h
              exact ⟨by simp, fun q => absurd q (by simp), fun _ => by simp; omega, fun _ => by simp; omega, fun q => absurd q (by simp)⟩
          · split at h
            · exact absurd h (by simp)
            · rename_i b hb
              have hb' := num_lt hb
              obtain rfl := Option.some.inj h
              refine ⟨by simp, fun q => absurd q (by simp), fun _ => by simp; omega, fun q => absurd q (by simp), fun _ => ?_⟩
              have : oth men m ≤ men := by unfold oth; split <;> omega
              show b < 2 * men
              omega
theorem act_ne {o : Option (Nat × Nat × Nat)} {x : Nat} (h : x < 15 ∨ 18 < x) : actO I o x = I x := by
  unfold actO
  split
  · rfl
  · split
    · exact beg_ne (by omega) (by omega) (by omega) (by omega)
    · split
      · exact up2_ne (by omega)
      · split
        · exact up2_ne (by omega)
        · exact up2_ne (by omega)
theorem act_mn {men : Nat} {a : Nat × Nat × Nat} (h : Mn I 15 men) (ha : actOk men a) : Mn (actO I (some a)) 15 (menA men a) := by
  obtain ⟨k, x, b⟩ := a
  unfold actO menA
  by_cases q : k = 0
  · have := ha.2.1 q
    simp only [if_pos q]
    refine ⟨?_, this.1, this.2⟩
    unfold begI begK
    rw [upTo_ne (by decide), upTo_ne (by decide), upTo_ne (by decide)]
    exact (beg_mn (I := I) (a := 15) this.1 this.2).1
  · simp only [if_neg q]
    refine ⟨?_, h.2⟩
    split
    · rw [up2_ne (by decide)]; exact h.1
    · split
      · rw [up2_ne (by decide)]; exact h.1
      · rw [up2_ne (by decide)]; exact h.1
/-- the text read from behind e on, c clauses at most, k are read: the answer, what is in the cells, the last token -/
def rdO (n : Nat) : Nat → (Nat → Nat → Int32) → Nat → Nat → Nat → Nat → Int32 × (Nat → Nat → Int32) × Nat × Nat
  | 0, I, _, _, s, e => (nI s, I, s, e)
  | c + 1, I, men, k, _, e =>
    match (clF I n men e).1 with
    | none => (nI (clF I n men e).2.1, I, (clF I n men e).2.1, (clF I n men e).2.2)
    | some a =>
      if n ≤ nxS I n (clF I n men e).2.2 then (-1, up2 (actO I (some a)) 13 3 (nI (k + 1)), nxS I n (clF I n men e).2.2, nxE I n (clF I n men e).2.2)
      else if I 14 (nxS I n (clF I n men e).2.2) = 59 then rdO n c (up2 (actO I (some a)) 13 3 (nI (k + 1))) (menA men a) (k + 1) (nxS I n (clF I n men e).2.2) (nxE I n (clF I n men e).2.2)
      else (nI (nxS I n (clF I n men e).2.2), up2 (actO I (some a)) 13 3 (nI (k + 1)), nxS I n (clF I n men e).2.2, nxE I n (clF I n men e).2.2)
theorem ti_p3 {v : Int32} : up2 (TI I s e) 13 3 v = TI (up2 I 13 3 v) s e := by
  funext x
  by_cases hx : x = 13
  · subst hx
    funext y
    rw [up2_eq]
    by_cases h4 : y = 4
    · subst h4; rw [pk_un (by decide), ti_4, ti_4]
    · by_cases h5 : y = 5
      · subst h5; rw [pk_un (by decide), ti_5, ti_5]
      · rw [ti_j h4 h5, up2_eq]
        by_cases h3 : y = 3
        · subst h3; rw [pk_us, pk_us]
        · rw [pk_un h3, pk_un h3, ti_j h4 h5]
  · rw [up2_ne hx, ti_ne hx, ti_ne hx, up2_ne hx]
theorem rd_loop (hm : fm = .null ∨ ∃ k, fm = .retAddr k) (hn : n ≤ 200) {r : Nat} : ∀ (c i : Nat) (I : Nat → Nat → Int32) (men s e : Nat), i + c = 24 → Mn I 15 men → I 13 2 = nI n → I 13 3 = nI i → e ≤ n →
    ev (jx_fo nn xs fm) (lv + 7) jm_Text_readOnto 20 [.ref 13, .ref r, .int (nI i)] [] (HH (TI I s e) J) = some (some (.int (rdO n c I men i s e).1), HH (TI (rdO n c I men i s e).2.1 (rdO n c I men i s e).2.2.1 (rdO n c I men i s e).2.2.2) J) := by
  have e24 : (24 : Int32) = nI 24 := rfl
  intro c
  induction c with
  | zero =>
    intro i I men s e hi hM en ek he
    obtain rfl : i = 24 := by omega
    rw [s_Text_readOnto_20]
    simp only [s_Text_readOnto_0, s_Text_readOnto_1, s_Text_readOnto_4, s_Text_readOnto_8, s_Text_readOnto_9, s_Text_readOnto_10, s_Text_readOnto_13, s_Text_readOnto_14, s_Text_readOnto_15, s_Text_readOnto_18, s_Text_readOnto_19, s_Text_readOnto_21, s_Text_readOnto_23, s_Text_readOnto_26, s_Text_readOnto_27 rcv_13, s_Text_readOnto_30, s_Text_readOnto_33, s_Text_readOnto_34, s_Text_readOnto_37, s_Text_readOnto_38, s_Text_readOnto_39, s_Text_readOnto_40, s_Text_readOnto_43, s_Text_readOnto_44, s_Text_readOnto_45, s_Text_readOnto_48, s_Text_readOnto_49 rcv_13, s_Text_readOnto_52, s_Text_readOnto_53, s_Text_readOnto_56, s_Text_readOnto_57, s_Text_readOnto_60, s_Text_readOnto_63, s_Text_readOnto_64, s_Text_readOnto_65, s_Text_readOnto_66, s_Text_readOnto_69, s_Text_readOnto_70, s_Text_readOnto_73, s_Text_readOnto_74, s_Text_readOnto_76, s_Text_readOnto_79, s_Text_readOnto_80, s_Text_readOnto_83, s_Text_readOnto_84, s_Text_readOnto_87, s_Text_readOnto_90, s_Text_readOnto_91, s_Text_readOnto_94, e24, if_pos (nI_le (Nat.le_refl 24) (show 24 < 2 ^ 31 by decide)), g_13_4, ti_4, rdO]
  | succ c ih =>
    intro i I men s e hi hM en ek he
    have hc := cl_le (I := I) (men := men) he
    rw [s_Text_readOnto_20]
    simp only [s_Text_readOnto_0, s_Text_readOnto_1, s_Text_readOnto_4, s_Text_readOnto_8, s_Text_readOnto_9, s_Text_readOnto_10, s_Text_readOnto_13, s_Text_readOnto_14, s_Text_readOnto_15, s_Text_readOnto_18, s_Text_readOnto_19, s_Text_readOnto_21, s_Text_readOnto_23, s_Text_readOnto_26, s_Text_readOnto_27 rcv_13, s_Text_readOnto_30, s_Text_readOnto_33, s_Text_readOnto_34, s_Text_readOnto_37, s_Text_readOnto_38, s_Text_readOnto_39, s_Text_readOnto_40, s_Text_readOnto_43, s_Text_readOnto_44, s_Text_readOnto_45, s_Text_readOnto_48, s_Text_readOnto_49 rcv_13, s_Text_readOnto_52, s_Text_readOnto_53, s_Text_readOnto_56, s_Text_readOnto_57, s_Text_readOnto_60, s_Text_readOnto_63, s_Text_readOnto_64, s_Text_readOnto_65, s_Text_readOnto_66, s_Text_readOnto_69, s_Text_readOnto_70, s_Text_readOnto_73, s_Text_readOnto_74, s_Text_readOnto_76, s_Text_readOnto_79, s_Text_readOnto_80, s_Text_readOnto_83, s_Text_readOnto_84, s_Text_readOnto_87, s_Text_readOnto_90, s_Text_readOnto_91, s_Text_readOnto_94, e24, if_neg (nI_ge (show i < 24 by omega) (show 24 < 2 ^ 31 by decide)), cl_in hm hM en hn he, Option.bind_some, Option.toList_some, List.cons_append, List.nil_append, rdO]
    cases q : (clF I n men e).1 with
    | none => simp only [okO, actO, if_true, s_Text_readOnto_0, s_Text_readOnto_1, s_Text_readOnto_4, s_Text_readOnto_8, s_Text_readOnto_9, s_Text_readOnto_10, s_Text_readOnto_13, s_Text_readOnto_14, s_Text_readOnto_15, s_Text_readOnto_18, s_Text_readOnto_19, s_Text_readOnto_21, s_Text_readOnto_23, s_Text_readOnto_26, s_Text_readOnto_27 rcv_13, s_Text_readOnto_30, s_Text_readOnto_33, s_Text_readOnto_34, s_Text_readOnto_37, s_Text_readOnto_38, s_Text_readOnto_39, s_Text_readOnto_40, s_Text_readOnto_43, s_Text_readOnto_44, s_Text_readOnto_45, s_Text_readOnto_48, s_Text_readOnto_49 rcv_13, s_Text_readOnto_52, s_Text_readOnto_53, s_Text_readOnto_56, s_Text_readOnto_57, s_Text_readOnto_60, s_Text_readOnto_63, s_Text_readOnto_64, s_Text_readOnto_65, s_Text_readOnto_66, s_Text_readOnto_69, s_Text_readOnto_70, s_Text_readOnto_73, s_Text_readOnto_74, s_Text_readOnto_76, s_Text_readOnto_79, s_Text_readOnto_80, s_Text_readOnto_83, s_Text_readOnto_84, s_Text_readOnto_87, s_Text_readOnto_90, s_Text_readOnto_91, s_Text_readOnto_94, g_13_4, ti_4]
    | some a =>
      have ha := cl_ok hM.2.1 q
      have hM1 := act_mn hM ha
      generalize hI1 : actO I (some a) = I1 at hM1 ⊢
      have e14 : I1 14 = I 14 := by rw [← hI1]; exact act_ne (by omega)
      have e13 : I1 13 = I 13 := by rw [← hI1]; exact act_ne (by omega)
      have f14 : up2 I1 13 3 (nI (i + 1)) 14 = I 14 := by rw [up2_ne (by decide)]; exact e14
      have f2 : up2 I1 13 3 (nI (i + 1)) 13 2 = nI n := by rw [up2_eq, pk_un (by decide), e13]; exact en
      have f3 : up2 I1 13 3 (nI (i + 1)) 13 3 = nI (i + 1) := by rw [up2_eq, pk_us]
      have fM : Mn (up2 I1 13 3 (nI (i + 1))) 15 (menA men a) := ⟨by rw [up2_ne (by decide)]; exact hM1.1, hM1.2⟩
      have fs : nxS (up2 I1 13 3 (nI (i + 1))) n (clF I n men e).2.2 = nxS I n (clF I n men e).2.2 := nxS_c (fun j _ => by rw [f14]) hc.2
      have fe : nxE (up2 I1 13 3 (nI (i + 1))) n (clF I n men e).2.2 = nxE I n (clF I n men e).2.2 := nxE_c (fun j _ => by rw [f14]) hc.2
      have hz := nx_s (I := I) hc.2
      have hy := nx_e (I := I) hc.2
      simp only [okO, hI1, if_neg (show ¬ (1 : Int32) = 0 by decide), s_Text_readOnto_0, s_Text_readOnto_1, s_Text_readOnto_4, s_Text_readOnto_8, s_Text_readOnto_9, s_Text_readOnto_10, s_Text_readOnto_13, s_Text_readOnto_14, s_Text_readOnto_15, s_Text_readOnto_18, s_Text_readOnto_19, s_Text_readOnto_21, s_Text_readOnto_23, s_Text_readOnto_26, s_Text_readOnto_27 rcv_13, s_Text_readOnto_30, s_Text_readOnto_33, s_Text_readOnto_34, s_Text_readOnto_37, s_Text_readOnto_38, s_Text_readOnto_39, s_Text_readOnto_40, s_Text_readOnto_43, s_Text_readOnto_44, s_Text_readOnto_45, s_Text_readOnto_48, s_Text_readOnto_49 rcv_13, s_Text_readOnto_52, s_Text_readOnto_53, s_Text_readOnto_56, s_Text_readOnto_57, s_Text_readOnto_60, s_Text_readOnto_63, s_Text_readOnto_64, s_Text_readOnto_65, s_Text_readOnto_66, s_Text_readOnto_69, s_Text_readOnto_70, s_Text_readOnto_73, s_Text_readOnto_74, s_Text_readOnto_76, s_Text_readOnto_79, s_Text_readOnto_80, s_Text_readOnto_83, s_Text_readOnto_84, s_Text_readOnto_87, s_Text_readOnto_90, s_Text_readOnto_91, s_Text_readOnto_94, g_13_3, ti_j (show 3 ≠ 4 by decide) (show 3 ≠ 5 by decide), e13, ek, nI_1, p_13_3, ti_p3, nxt_in f2 hn hc.2, Option.bind_some, Option.toList_none, List.nil_append, fs, fe]
      generalize nxS I n (clF I n men e).2.2 = z at hz hy ⊢
      generalize nxE I n (clF I n men e).2.2 = y at hy ⊢
      simp only [s_Text_readOnto_0, s_Text_readOnto_1, s_Text_readOnto_4, s_Text_readOnto_8, s_Text_readOnto_9, s_Text_readOnto_10, s_Text_readOnto_13, s_Text_readOnto_14, s_Text_readOnto_15, s_Text_readOnto_18, s_Text_readOnto_19, s_Text_readOnto_21, s_Text_readOnto_23, s_Text_readOnto_26, s_Text_readOnto_27 rcv_13, s_Text_readOnto_30, s_Text_readOnto_33, s_Text_readOnto_34, s_Text_readOnto_37, s_Text_readOnto_38, s_Text_readOnto_39, s_Text_readOnto_40, s_Text_readOnto_43, s_Text_readOnto_44, s_Text_readOnto_45, s_Text_readOnto_48, s_Text_readOnto_49 rcv_13, s_Text_readOnto_52, s_Text_readOnto_53, s_Text_readOnto_56, s_Text_readOnto_57, s_Text_readOnto_60, s_Text_readOnto_63, s_Text_readOnto_64, s_Text_readOnto_65, s_Text_readOnto_66, s_Text_readOnto_69, s_Text_readOnto_70, s_Text_readOnto_73, s_Text_readOnto_74, s_Text_readOnto_76, s_Text_readOnto_79, s_Text_readOnto_80, s_Text_readOnto_83, s_Text_readOnto_84, s_Text_readOnto_87, s_Text_readOnto_90, s_Text_readOnto_91, s_Text_readOnto_94, g_13_0, g_13_2, g_13_4, ti_4, ti_2, f2, nI_ltI (show z < 2 ^ 31 by omega) (show n < 2 ^ 31 by omega)]
      by_cases q2 : n ≤ z
      · simp only [if_neg (show ¬ z < n by omega), if_pos q2]
      · simp only [if_pos (show z < n by omega), if_neg q2, gi_14, at_in (show z < 200 by omega) (show 200 < 2 ^ 31 by decide), nI_clamp (show z < 2 ^ 31 by omega), ti_ne (show 14 ≠ 13 by decide), f14, s_Text_readOnto_0, s_Text_readOnto_1, s_Text_readOnto_4, s_Text_readOnto_8, s_Text_readOnto_9, s_Text_readOnto_10, s_Text_readOnto_13, s_Text_readOnto_14, s_Text_readOnto_15, s_Text_readOnto_18, s_Text_readOnto_19, s_Text_readOnto_21, s_Text_readOnto_23, s_Text_readOnto_26, s_Text_readOnto_27 rcv_13, s_Text_readOnto_30, s_Text_readOnto_33, s_Text_readOnto_34, s_Text_readOnto_37, s_Text_readOnto_38, s_Text_readOnto_39, s_Text_readOnto_40, s_Text_readOnto_43, s_Text_readOnto_44, s_Text_readOnto_45, s_Text_readOnto_48, s_Text_readOnto_49 rcv_13, s_Text_readOnto_52, s_Text_readOnto_53, s_Text_readOnto_56, s_Text_readOnto_57, s_Text_readOnto_60, s_Text_readOnto_63, s_Text_readOnto_64, s_Text_readOnto_65, s_Text_readOnto_66, s_Text_readOnto_69, s_Text_readOnto_70, s_Text_readOnto_73, s_Text_readOnto_74, s_Text_readOnto_76, s_Text_readOnto_79, s_Text_readOnto_80, s_Text_readOnto_83, s_Text_readOnto_84, s_Text_readOnto_87, s_Text_readOnto_90, s_Text_readOnto_91, s_Text_readOnto_94]
        by_cases q3 : I 14 z = 59
        · simp only [if_pos q3, nI_1]
          exact ih (i + 1) _ _ z y (by omega) fM f2 f3 hy.2
        · simp only [if_neg q3]
/-- the cells as the reading begins -/
def rdS (I : Nat → Nat → Int32) : Nat → Nat → Int32 := up2 (takeI I 15 1) 13 3 0
theorem take_ne {a b x : Nat} (h0 : x ≠ a) (h1 : x ≠ a + 1) (h2 : x ≠ a + 2) (h3 : x ≠ a + 3) : takeI I a b x = I x := by
  unfold takeI
  rw [if_neg h0, if_neg h1, if_neg h2, if_neg h3]
theorem onto_in {men : Nat} (hm : fm = .null ∨ ∃ k, fm = .retAddr k) (hM : Mn I 1 men) (en : I 13 2 = nI n) (hn : n ≤ 200) (es : I 13 4 = nI s) : rn (jx_fo nn xs fm) (lv + 7) 51 [.ref 13, .ref 1] (HH I J) = some (some (.int (rdO n 24 (rdS I) men 0 s 0).1), HH (TI (rdO n 24 (rdS I) men 0 s 0).2.1 (rdO n 24 (rdS I) men 0 s 0).2.2.1 (rdO n 24 (rdS I) men 0 s 0).2.2.2) J) := by
  have e1 : up2 (up2 (takeI I 15 1) 13 3 0) 13 5 0 = TI (rdS I) s 0 := by
    have h4 : rdS I 13 4 = nI s := by
      unfold rdS
      rw [up2_eq, pk_un (by decide), take_ne (by decide) (by decide) (by decide) (by decide)]
      exact es
    funext x
    by_cases hx : x = 13
    · subst hx
      funext y
      rw [up2_eq]
      by_cases h5 : y = 5
      · subst h5; rw [pk_us, ti_5]; rfl
      · rw [pk_un h5]
        by_cases hy : y = 4
        · subst hy; rw [ti_4]; exact h4
        · rw [ti_j hy h5]; rfl
    · rw [up2_ne hx, ti_ne hx]; rfl
  have hM1 : Mn (rdS I) 15 men := by
    refine ⟨?_, hM.2⟩
    unfold rdS
    rw [up2_ne (by decide)]
    unfold takeI
    rw [if_pos rfl, pk_un (by decide), pk_us]
    exact hM.1
  have en1 : rdS I 13 2 = nI n := by
    unfold rdS
    rw [up2_eq, pk_un (by decide), take_ne (by decide) (by decide) (by decide) (by decide)]
    exact en
  have ek1 : rdS I 13 3 = nI 0 := by
    unfold rdS
    rw [up2_eq, pk_us]; rfl
  rw [e_Text_readOnto]
  simp only [s_Text_readOnto_0, s_Text_readOnto_1, s_Text_readOnto_4, s_Text_readOnto_5 (ar_rcv ar_15), take_in ar_15 ar_1 (show 1 + 3 < 15 ∨ 15 + 3 < 1 by decide), Option.bind_some, Option.toList_none, List.nil_append, s_Text_readOnto_8, s_Text_readOnto_9, s_Text_readOnto_10, s_Text_readOnto_13, s_Text_readOnto_14, s_Text_readOnto_15, s_Text_readOnto_18, s_Text_readOnto_19, g_13_1, p_13_3, p_13_5, e1]
  exact rd_loop hm hn 24 0 (rdS I) men s 0 (by omega) hM1 en1 ek1 (by omega)
end Txt
