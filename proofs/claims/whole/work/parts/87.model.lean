/-! ===== the Model: a day, days ===== -/
theorem Fr.refl {I : Nat → Nat → Int32} {b : Nat} : Fr I I b := ⟨fun _ _ _ => rfl, fun _ _ _ => rfl⟩
theorem Fr.trans {I I' I'' : Nat → Nat → Int32} {b : Nat} (h : Fr I I' b) (g : Fr I' I'' b) : Fr I I'' b :=
  ⟨fun x h1 h2 => (g.1 x h1 h2).trans (h.1 x h1 h2), fun y h1 h2 => (g.2 y h1 h2).trans (h.2 y h1 h2)⟩
section Mdl
variable {F : jx_F} {lv : Nat} {I C : Nat → Nat → Int32} {J : Nat → Nat → Int64} {a b n : Nat}
theorem day_d : dayI C a n a 4 = C a 4 + 1 := by
  unfold dayI
  split
  · rw [upTo_ne (by omega)]; exact shot_d
  · exact shot_d
theorem md_step {D : Int32} {k d : Nat} (h : Rw C a I b n) (hb : b = 0 ∨ 26 ≤ b) (hd : C a 4 = nI d) (hd' : d < 2 ^ 20) (v4 v5 : Value) : ∃ v4' v5' I', ev F (lv + 3) jm_Model_days 7 [.ref 73, .int (nI b), .int D, .int (nI k), v4, v5] [] (HH I J) = ev F (lv + 3) jm_Model_days 2 [.ref 73, .int (nI b), .int D, .int (nI (k + 1)), v4', v5'] [] (HH I' J) ∧ Rw (dayI C a n) a I' b n ∧ Fr I I' b := by
  have h1 := h.ba
  have h2 := h.ms
  have e16 : (16 : Int32) = nI 16 := rfl
  have hn := h.wf.mn
  have l0 := md_l0 (F := F) (lv := lv + 3) (J := J) (I := I) (b := b) (D := D) (k := nI k) (v5 := v5) 8 0 (by omega)
  rw [upTo_0] at l0
  obtain ⟨w5, l1⟩ := md_l1 (F := F) (lv := lv) (J := J) (D := D) (k := nI k) h hd hd' (2 * n) 0 v5 (by omega)
  -- what is gone, and a day more
  have hG : Rw C a (upTo I 92 (fun j => nI (cntN C a n (2 * n) j)) 8) b n := rw_74 h (upTo_ne (by decide))
  have f92 : ∀ j, j < 8 → upTo I 92 (fun j => nI (cntN C a n (2 * n) j)) 8 92 j = nI (cntN C a n (2 * n) j) := fun j hj => upTo_lt hj
  have fne : ∀ x, x ≠ 92 → upTo I 92 (fun j => nI (cntN C a n (2 * n) j)) 8 x = I x := fun x hx => upTo_ne hx
  generalize upTo I 92 (fun j => nI (cntN C a n (2 * n) j)) 8 = G at l1 hG f92 fne
  have eG16 : G 74 (b + 16) = nI d := by rw [hG.dy, hd]
  have hP : Rw (up2 C a 4 (nI (d + 1))) a (up2 G 74 (b + 16) (nI (d + 1))) b n := by
    refine ⟨wf_d h.wf, h1, ?_, ?_, ?_, ?_, ?_⟩
    · rw [up2_eq, pk_un (by omega)]; exact hG.nn
    · intro j hj; rw [up2_eq, pk_un (by omega), up2_ne (by omega)]; exact hG.k hj
    · intro j hj; rw [up2_eq, pk_un (by omega), up2_ne (by omega)]; exact hG.bt hj
    · intro j hj; rw [up2_eq, pk_un (by omega), up2_ne (by omega)]; exact hG.md hj
    · rw [up2_eq, pk_us, up2_eq, pk_us]
  have fP : ∀ x, x ≠ 74 → up2 G 74 (b + 16) (nI (d + 1)) x = G x := fun x hx => up2_ne hx
  have fP' : ∀ y, y ≠ b + 16 → up2 G 74 (b + 16) (nI (d + 1)) 74 y = G 74 y := fun y hy => by rw [up2_eq, pk_un hy]
  -- the shots
  have eL : lossB (up2 C a 4 (nI (d + 1))) a (hitL C a n 0 (2 * n) 0) = lossB C a (hitL C a n 0 (2 * n) 0) := lossB_d
  have hl : ∀ j, j < 2 * n → ∃ x, x < 256 ∧ up2 G 74 (b + 16) (nI (d + 1)) 92 j = nI x ∧ lostB (hitL C a n 0 (2 * n) 0) j = nI x := fun j hj =>
    ⟨cntN C a n (2 * n) j, by have := cnt_le (I := C) (a := a) (n := n) (2 * n) j; omega, by rw [fP 92 (by decide)]; exact f92 j (by omega), lost_cnt hn hj⟩
  obtain ⟨w5', l2⟩ := md_l2 (F := F) (lv := lv) (J := J) (D := D) (k := nI k) hP hb hl (2 * n) 0 w5 (by omega)
  rw [eL, upF_0] at l2
  have hS : Rw (shotI C a n) a (upF (up2 G 74 (b + 16) (nI (d + 1))) 74 b (lossB C a (hitL C a n 0 (2 * n) 0)) (2 * n)) b n := by
    refine ⟨wf_shot h.wf, h1, ?_, ?_, ?_, ?_, ?_⟩
    · exact (rw_upF hP hb (Nat.le_refl _)).1
    · intro j hj; rw [(rw_upF hP hb (Nat.le_refl _)).2.1 j hj]; unfold shotI; rw [upTo_ne (by omega), up2_ne (by omega), up2_ne (by omega)]
    · intro j hj; rw [upF_in hj]; unfold shotI; rw [upTo_lt hj]
    · intro j hj; rw [(rw_upF hP hb (Nat.le_refl _)).2.2.1 j hj]; unfold shotI; rw [upTo_ne (by omega), up2_ne (by omega), up2_ne (by omega)]
    · rw [(rw_upF hP hb (Nat.le_refl _)).2.2.2, shot_d, up2_eq, pk_us, hd, nI_1]
  have fS : ∀ x, x ≠ 74 → upF (up2 G 74 (b + 16) (nI (d + 1))) 74 b (lossB C a (hitL C a n 0 (2 * n) 0)) (2 * n) x = G x := fun x hx => by rw [upF_ne hx, fP x hx]
  have fS' : ∀ y, (y < b ∨ b + 8 ≤ y) → y ≠ b + 16 → upF (up2 G 74 (b + 16) (nI (d + 1))) 74 b (lossB C a (hitL C a n 0 (2 * n) 0)) (2 * n) 74 y = G 74 y := fun y hy hy' => by rw [upF_out (by omega), fP' y hy']
  generalize hSg : upF (up2 G 74 (b + 16) (nI (d + 1))) 74 b (lossB C a (hitL C a n 0 (2 * n) 0)) (2 * n) = S at l2 hS fS fS'
  have eS16 : S 74 (b + 16) = nI (d + 1) := by rw [hS.dy, shot_d, hd, nI_1]
  have fr : Fr I S b := ⟨fun x hx hx' => by rw [fS x hx, fne x hx'], fun y hy hy' => by rw [fS' y hy hy', fne 74 (by decide)]⟩
  have e4 : (4 : Int32) = nI 4 := rfl
  have em : nI (d + 1) - nI (d + 1) / 4 * 4 = nI ((d + 1) % 4) := pk_rem (show d + 1 < 2 ^ 31 by omega) (show 0 < 4 by decide) (show 4 < 2 ^ 31 by decide)
  have ez : (nI ((d + 1) % 4) = (0 : Int32)) ↔ (d + 1) % 4 = 0 := by rw [show (0 : Int32) = nI 0 from rfl, nI_eq (by omega) (by decide)]
  -- the run
  have run1 : ev F (lv + 3) jm_Model_days 7 [.ref 73, .int (nI b), .int D, .int (nI k), v4, v5] [] (HH I J) = ev F (lv + 3) jm_Model_days 161 [.ref 73, .int (nI b), .int D, .int (nI k), .int (nI (2 * n)), w5'] [] (HH S J) := by
    simp only [s_Model_days_7, s_Model_days_8]
    refine Eq.trans l0 ?_
    simp only [s_Model_days_31, s_Model_days_32]
    refine Eq.trans l1 ?_
    simp only [s_Model_days_87, s_Model_days_88, s_Model_days_91, s_Model_days_92, s_Model_days_94, s_Model_days_95, s_Model_days_96, s_Model_days_97, s_Model_days_98, s_Model_days_99, s_Model_days_100, s_Model_days_101, g_73_0, e16, nI_add, g74 (show b + 16 < 239 by omega), eG16, p74 (show b + 16 < 239 by omega), nI_1]
    exact l2
  by_cases q : (d + 1) % 4 = 0
  · have hm := mham_in (F := F) (lv := lv + 1) (J := J) hS hb
    refine ⟨.int (nI (2 * n)), w5', upF S 74 b (hamB (shotI C a n) a) (2 * n), ?_, ?_, ?_⟩
    · rw [run1]
      simp only [s_Model_days_161, s_Model_days_162, s_Model_days_165, s_Model_days_166, s_Model_days_168, s_Model_days_169, s_Model_days_170, s_Model_days_171, s_Model_days_172, g_73_0, e16, nI_add, g74 (show b + 16 < 239 by omega), eS16, if_neg (show ¬ (4 : Int32) = 0 by decide), em, if_pos (ez.2 q), s_Model_days_175, s_Model_days_176, s_Model_days_177 rcv_73, hm, Option.bind_some, Option.toList_none, List.nil_append, s_Model_days_180, s_Model_days_183, nI_1]
    · have ed : dayI C a n = upTo (shotI C a n) (a + 2) (hamB (shotI C a n) a) (2 * n) := by
        unfold dayI
        rw [hd, nI_1, em, if_pos (ez.2 q)]
      rw [ed]
      have hu := rw_upF (g := hamB (shotI C a n) a) hS hb (Nat.le_refl (2 * n))
      refine ⟨wf_ham (wf_shot h.wf), h1, hu.1, ?_, ?_, ?_, ?_⟩
      · intro j hj; rw [hu.2.1 j hj, upTo_ne (by omega)]
      · intro j hj; rw [upF_in hj, upTo_lt hj]
      · intro j hj; rw [hu.2.2.1 j hj, upTo_ne (by omega)]
      · rw [hu.2.2.2, upTo_ne (by omega)]
    · refine fr.trans ⟨fun x hx _ => upF_ne hx, fun y hy hy' => upF_out (by omega)⟩
  · refine ⟨.int (nI (2 * n)), w5', S, ?_, ?_, fr⟩
    · rw [run1]
      simp only [s_Model_days_161, s_Model_days_162, s_Model_days_165, s_Model_days_166, s_Model_days_168, s_Model_days_169, s_Model_days_170, s_Model_days_171, s_Model_days_172, g_73_0, e16, nI_add, g74 (show b + 16 < 239 by omega), eS16, if_neg (show ¬ (4 : Int32) = 0 by decide), em, if_neg (fun w => q (ez.1 w)), s_Model_days_180, s_Model_days_183, nI_1]
    · have ed : dayI C a n = shotI C a n := by
        unfold dayI
        rw [hd, nI_1, em, if_neg (fun w => q (ez.1 w))]
      rw [ed]
      exact hS
theorem mdays_loop {D : Nat} (hD : D < 2 ^ 20) (hb : b = 0 ∨ 26 ≤ b) : ∀ (c k d : Nat) (I C : Nat → Nat → Int32) (v4 v5 : Value), k + c = D → Rw C a I b n → C a 4 = nI d → d + c < 2 ^ 20 → ∃ I', ev F (lv + 3) jm_Model_days 2 [.ref 73, .int (nI b), .int (nI D), .int (nI k), v4, v5] [] (HH I J) = some (none, HH I' J) ∧ Rw (daysI C a n c) a I' b n ∧ Fr I I' b := by
  intro c
  induction c with
  | zero =>
    intro k d I C v4 v5 hk h hd hd'
    obtain rfl : k = D := by omega
    refine ⟨I, ?_, h, Fr.refl⟩
    rw [s_Model_days_2]
    simp only [s_Model_days_3, s_Model_days_4, if_pos (nI_le (Nat.le_refl k) (show k < 2 ^ 31 by omega)), s_Model_days_186]
  | succ c ih =>
    intro k d I C v4 v5 hk h hd hd'
    obtain ⟨w4, w5, I1, e1, r1, f1⟩ := md_step (F := F) (lv := lv) (J := J) (D := nI D) (k := k) h hb hd (by omega) v4 v5
    obtain ⟨I2, e2, r2, f2⟩ := ih (k + 1) (d + 1) I1 (dayI C a n) w4 w5 (by omega) r1 (by rw [day_d, hd, nI_1]) (by omega)
    refine ⟨I2, ?_, r2, f1.trans f2⟩
    rw [s_Model_days_2]
    simp only [s_Model_days_3, s_Model_days_4, if_neg (nI_ge (show k < D by omega) (show D < 2 ^ 31 by omega))]
    rw [e1, e2]
theorem mdays_in {D d : Nat} (h : Rw C a I b n) (hb : b = 0 ∨ 26 ≤ b) (hd : C a 4 = nI d) (hd' : d + D < 2 ^ 20) : ∃ I', rn F (lv + 3) 132 [.ref 73, .int (nI b), .int (nI D)] (HH I J) = some (none, HH I' J) ∧ Rw (daysI C a n D) a I' b n ∧ Fr I I' b := by
  obtain ⟨I', e, r, f⟩ := mdays_loop (F := F) (lv := lv) (J := J) (D := D) (by omega) hb D 0 d I C jx_junk jx_junk (by omega) h hd (by omega)
  refine ⟨I', ?_, r, f⟩
  rw [e_Model_days]
  simp only [s_Model_days_0, s_Model_days_1]
  exact e
theorem days_d : ∀ (c d : Nat) (C : Nat → Nat → Int32), C a 4 = nI d → daysI C a n c a 4 = nI (d + c) := by
  intro c
  induction c with
  | zero => intro d C h; exact h
  | succ c ih =>
    intro d C h
    show daysI (dayI C a n) a n c a 4 = _
    rw [ih (d + 1) _ (by rw [day_d, h, nI_1])]
    congr 1; omega
end Mdl
