/-! ===== army: alike ===== -/
section Cal
variable {nn : Nat} {xs : Nat → Int32} {fm : Value} {F : jx_F} {lv : Nat} {I Y W : Nat → Nat → Int32} {J : Nat → Nat → Int64}
theorem am_run : ev F (lv + 2) jm_Model_army 17 [.ref 73, jx_junk] [] (HH W J) = some (some (.int (W 73 15)), HH (ayM W) J) := by
  have e3 : (3 : Int32) = nI 3 := rfl
  have p75 : ∀ {α : Type} {Z : Nat → Nat → Int32} {k : Nat} {x : Int32} {f : jx_H → Option α}, k < 2 → jx_pi (HH Z J) 2 75 (nI k) x f = f (HH (up2 Z 75 k x) J) := fun {α Z k x f} hk => by rw [pi_75, at_in hk (by decide), nI_clamp (by omega)]
  have c := mcopy_in (F := F) (lv := lv + 1) (I := up2 W 73 4 0) (J := J) (f := 26) (t := 0) (N := 26) (by decide) (by decide) (by decide)
  rw [show nI 0 = (0 : Int32) from rfl, show nI 26 = (26 : Int32) from rfl] at c
  have p750 : ∀ {α : Type} {Z : Nat → Nat → Int32} {x : Int32} {f : jx_H → Option α}, jx_pi (HH Z J) 2 75 0 x f = f (HH (up2 Z 75 0 x) J) := p75 (k := 0) (by decide)
  have p751 : ∀ {α : Type} {Z : Nat → Nat → Int32} {x : Int32} {f : jx_H → Option α}, jx_pi (HH Z J) 2 75 1 x f = f (HH (up2 Z 75 1 x) J) := p75 (k := 1) (by decide)
  have f15 : ayM W 73 15 = W 73 15 := am_73 (by decide) (by decide) (by decide)
  have st1 : ev F (lv + 2) jm_Model_army 17 [.ref 73, jx_junk] [] (HH W J) = ev F (lv + 2) jm_Model_army 57 [.ref 73, .int (nI 0)] [] (HH (up2 (up2 (up2 (up2 (upF (up2 W 73 4 0) 74 0 (fun j => up2 W 73 4 0 74 (26 + j)) 26) 73 1 0) 75 0 0) 75 1 0) 73 5 0) J) := by
    simp only [s_Model_army_17, s_Model_army_18, s_Model_army_19, p_73_4, s_Model_army_22, s_Model_army_23, s_Model_army_25, s_Model_army_26, s_Model_army_28 rcv_73, c, Option.bind_some, Option.toList_some, Option.toList_none, List.cons_append, List.nil_append, i10, i01, if_false, if_true, nI_add, nI_1, s_Model_army_31, s_Model_army_32, s_Model_army_33, p_73_1, s_Model_army_36, s_Model_army_37, s_Model_army_40, s_Model_army_41, s_Model_army_42, g_73_2, vb0, p750, s_Model_army_43, s_Model_army_44, s_Model_army_47, s_Model_army_48, s_Model_army_49, p751, s_Model_army_50, s_Model_army_51, s_Model_army_52, p_73_5, s_Model_army_55, s_Model_army_56]
    rfl
  rw [st1, s_Model_army_57]
  simp only [s_Model_army_58, s_Model_army_59, e3, if_neg (nI_ge (show 0 < 3 by decide) (show 3 < 2 ^ 31 by decide)), s_Model_army_62, s_Model_army_63, s_Model_army_66, s_Model_army_67, s_Model_army_68, g_73_10, p81 (show 0 < 3 by decide), s_Model_army_69, s_Model_army_72, nI_1]
  rw [s_Model_army_57]
  simp only [s_Model_army_58, s_Model_army_59, e3, if_neg (nI_ge (show 0 + 1 < 3 by decide) (show 3 < 2 ^ 31 by decide)), s_Model_army_62, s_Model_army_63, s_Model_army_66, s_Model_army_67, s_Model_army_68, g_73_10, p81 (show 0 + 1 < 3 by decide), s_Model_army_69, s_Model_army_72, nI_1]
  rw [s_Model_army_57]
  simp only [s_Model_army_58, s_Model_army_59, e3, if_neg (nI_ge (show 0 + 1 + 1 < 3 by decide) (show 3 < 2 ^ 31 by decide)), s_Model_army_62, s_Model_army_63, s_Model_army_66, s_Model_army_67, s_Model_army_68, g_73_10, p81 (show 0 + 1 + 1 < 3 by decide), s_Model_army_69, s_Model_army_72, nI_1]
  rw [s_Model_army_57]
  simp only [s_Model_army_58, s_Model_army_59, e3, if_pos (nI_le (show 3 ≤ 0 + 1 + 1 + 1 by decide) (show 0 + 1 + 1 + 1 < 2 ^ 31 by decide)), s_Model_army_75, s_Model_army_76, s_Model_army_79, g_73_15]
  exact congrArg (fun v => some (some (Value.int v), HH (ayM W) J)) f15
theorem st_army (h : Inv I J) (hm : fm = .null ∨ ∃ k, fm = .retAddr k) : Alk (jx_fo nn xs fm) lv 66 123 [] I J := by
  obtain ⟨len, hl, t1, t2, t3⟩ := h.1
  obtain ⟨men, hw, o4, h43, h42, ok1, ok2, ok3⟩ := h.2.2.2.2.1
  obtain ⟨s, es⟩ := some_nI (I 13 4)
  have h4 := hw.mn.2
  have on := onto_in (nn := nn) (xs := xs) (lv := lv + 2) (J := J) hm hw.mn t1 hl es
  have kp1 := onto_kp (I := I) (men := men) (n := len) (s := s) (s' := (rdO len 24 (rdS I) men 0 s 0).2.2.1) (e' := (rdO len 24 (rdS I) men 0 s 0).2.2.2)
  have inv1 := inv_kp h kp1
  have f := rdO_fr (n := len) 24 (rdS I) men 0 s 0
  have hC0 : rdS I 13 3 = nI 0 := by unfold rdS; rw [up2_eq, pk_us]; rfl
  have hC14 : rdS I 14 = I 14 := rdS_ne (by decide) (by decide)
  have t13 : TI (rdO len 24 (rdS I) men 0 s 0).2.1 (rdO len 24 (rdS I) men 0 s 0).2.2.1 (rdO len 24 (rdS I) men 0 s 0).2.2.2 13 3 = (rdO len 24 (rdS I) men 0 s 0).2.1 13 3 := ti_j (by decide) (by decide)
  have tdr : ∀ x, 15 ≤ x → x ≤ 18 → TI (rdO len 24 (rdS I) men 0 s 0).2.1 (rdO len 24 (rdS I) men 0 s 0).2.2.1 (rdO len 24 (rdS I) men 0 s 0).2.2.2 x = (rdO len 24 (rdS I) men 0 s 0).2.1 x := fun x a b => ti_ne (by omega)
  have c76 : TI (rdO len 24 (rdS I) men 0 s 0).2.1 (rdO len 24 (rdS I) men 0 s 0).2.2.1 (rdO len 24 (rdS I) men 0 s 0).2.2.2 76 = I 76 := by rw [ti_ne (by decide), f.1 76 (by decide) (by decide), rdS_ne (by decide) (by decide)]
  have c74 : TI (rdO len 24 (rdS I) men 0 s 0).2.1 (rdO len 24 (rdS I) men 0 s 0).2.2.1 (rdO len 24 (rdS I) men 0 s 0).2.2.2 74 = I 74 := by rw [ti_ne (by decide), f.1 74 (by decide) (by decide), rdS_ne (by decide) (by decide)]
  have c73 : TI (rdO len 24 (rdS I) men 0 s 0).2.1 (rdO len 24 (rdS I) men 0 s 0).2.2.1 (rdO len 24 (rdS I) men 0 s 0).2.2.2 73 = I 73 := by rw [ti_ne (by decide), f.1 73 (by decide) (by decide), rdS_ne (by decide) (by decide)]
  generalize hI1 : TI (rdO len 24 (rdS I) men 0 s 0).2.1 (rdO len 24 (rdS I) men 0 s 0).2.2.1 (rdO len 24 (rdS I) men 0 s 0).2.2.2 = I1 at on kp1 inv1 t13 tdr c76 c74 c73
  have rd1 := fun (X : Nat → Nat → Int32) (dv : Int32) (hdv : dv = 0 ∨ dv = 1) (hWX : pWord X) (en : X 73 4 = nI len) (em : X 74 43 = nI men) (e76 : X 76 = I 76) => mreads_in (F := jx_fo nn xs fm) (lv := lv + 3) (J := J) (C := rdS I) (X := X) (dv := dv) (s := s) (n := len) (men := men) hdv hWX h4 en em hl (fun j hj => by rw [e76, hC14]; exact t3 j hj) hC0
  by_cases q : (rdO len 24 (rdS I) men 0 s 0).1 = -1
  · -- no fault
    have run1 : rn (jx_fo nn xs fm) (lv + 10) 66 [.ref 0] (HH I J) = some (some (.int (I1 13 3)), HH (ayI I1) J) := by
      simp only [e_Main_army, s_Main_army_0, s_Main_army_1, s_Main_army_4, s_Main_army_5, s_Main_army_8 rcv_13, g_0_0, g_0_3, on, Option.bind_some, Option.toList_some, Option.toList_none, List.cons_append, List.nil_append, i10, i01, if_false, if_true, nI_add, nI_1, s_Main_army_11, s_Main_army_12, if_pos q]
      exact ay_run
    have y73 : ayI I1 73 = I 73 := by rw [ay_ne (by decide) (by decide) (by decide) (by decide) (by decide) (by decide) (by decide) (by decide)]; exact c73
    have y74 : ayI I1 74 = I 74 := by rw [ay_ne (by decide) (by decide) (by decide) (by decide) (by decide) (by decide) (by decide) (by decide)]; exact c74
    have y76 : ayI I1 76 = I 76 := by rw [ay_ne (by decide) (by decide) (by decide) (by decide) (by decide) (by decide) (by decide) (by decide)]; exact c76
    have yW : pWord (ayI I1) := pWord_c inv1.2.2.2.1 (fun w hw => ay_ne (by omega) (by omega) (by omega) (by omega) (by omega) (by omega) (by omega) (by omega))
    obtain ⟨X1, s1, e1, k1, a1, a2, a3, a4, ⟨a5, a6, a7, a8⟩, a9, a10⟩ := rd1 (ayI I1) 0 (Or.inl rfl) yW (by rw [y73]; exact t2) (by rw [y74]; exact h43) y76
    have k1' : k1 = 1 := by
      rcases a2 with r | r
      · rw [r, if_pos rfl, q] at a3; exact absurd a3.symm (op_ne (by omega))
      · exact r
    subst k1'
    have z76 : MI X1 s1 e1 76 = I 76 := by rw [mi_ne (by decide), a5 76 (by decide) (by decide) (by decide), rdB_ne (by decide)]; exact y76
    have z74 : MI X1 s1 e1 74 = I 74 := by rw [mi_ne (by decide), a7 rfl, rdB_ne (by decide)]; exact y74
    have z4 : MI X1 s1 e1 73 4 = nI len := by rw [mi_4, a6 4 (by decide) (by decide), rdB_j (by decide) (by decide) (by decide), y73]; exact t2
    have zx : ∀ x, x ≠ 73 → x ≠ 74 → x ≠ 83 → MI X1 s1 e1 x = ayI I1 x := fun x h1 h2 h3 => by rw [mi_ne h1, a5 x h1 h2 h3, rdB_ne h1]
    have zW : pWord (MI X1 s1 e1) := pWord_c yW (fun w hw => zx _ (by omega) (by omega) (by omega))
    obtain ⟨X2, s2, e2, k2, b1, b2, b3, b4, ⟨b5, b6, b7, b8⟩, b9, b10⟩ := rd1 (MI X1 s1 e1) 1 (Or.inr rfl) zW z4 (by rw [z74]; exact h43) z76
    have k2' : k2 = 1 := by
      rcases b2 with r | r
      · rw [r, if_pos rfl, q] at b3; exact absurd b3.symm (op_ne (by omega))
      · exact r
    subst k2'
    obtain ⟨kk, c1, c2⟩ := b9 rfl
    -- the told army that was read
    have cpd : CpA I 1 (rdS I) 15 := by
      refine cp_trans (cp_take (C := I) (a := 15) (b := 1)) (cp_same ?_ ?_ ?_ ?_)
      · unfold rdS; rw [up2_ne (by decide)]
      · unfold rdS; rw [up2_ne (by decide)]
      · unfold rdS; rw [up2_ne (by decide)]
      · unfold rdS; rw [up2_ne (by decide)]
    have t0 : td (rdS I) (rdB (MI X1 s1 e1) 1 men) men := by
      unfold td
      rw [rdB_ne (show 74 ≠ 73 by decide), z74]
      refine ⟨cp_wf hw cpd, by rw [cpd.2.1]; exact o4, h43, h42, ?_, ?_, ?_⟩
      · intro j hj; rw [show (16 : Nat) = 15 + 1 from rfl, cpd.2.2.1 j (by omega)]; exact ok1 j hj
      · intro j hj; rw [show (17 : Nat) = 15 + 2 from rfl, cpd.2.2.2.1 j (by omega)]; exact ok2 j hj
      · intro j hj; rw [show (18 : Nat) = 15 + 3 from rfl, cpd.2.2.2.2 j (by omega)]; exact ok3 j hj
    obtain ⟨m', tdw, tdd, td43, td42, tdk, tdb, tdm⟩ := b10 (by decide) t0 rfl
    have wx : ∀ x, x ≠ 73 → x ≠ 74 → x ≠ 83 → MI X2 s2 e2 x = ayI I1 x := fun x h1 h2 h3 => by rw [mi_ne h1, b5 x h1 h2 h3, rdB_ne h1, zx x h1 h2 h3]
    have w74 : MI X2 s2 e2 74 = X2 74 := mi_ne (by decide)
    have w15 : MI X2 s2 e2 73 15 = nI kk := by rw [mi_j (by decide) (by decide)]; exact c1
    have iy : I1 13 3 = nI kk := by rw [t13]; exact c2
    refine ⟨nI kk, ayI I1, ayM (MI X2 s2 e2), J, by rw [← iy]; exact run1, ?_, ?_⟩
    · simp only [e_Model_army, s_Model_army_0, s_Model_army_1, s_Model_army_2 rcv_73, a1, Option.bind_some, Option.toList_some, Option.toList_none, List.cons_append, List.nil_append, i10, i01, if_false, if_true, nI_add, nI_1, s_Model_army_5, s_Model_army_11, s_Model_army_12, s_Model_army_13 rcv_73, b1, s_Model_army_16]
      rw [← w15]
      exact am_run
    · have vx : ∀ x, x ≠ 73 → x ≠ 74 → x ≠ 75 → x ≠ 81 → x ≠ 83 → ayM (MI X2 s2 e2) x = ayI I1 x := fun x h1 h2 h3 h4 h5 => by rw [am_ne h1 h2 h3 h4, wx x h1 h2 h5]
      have cI1 : CpA (rdO len 24 (rdS I) men 0 s 0).2.1 15 I1 15 := cp_same (tdr 15 (by decide) (by decide)) (tdr 16 (by decide) (by decide)) (tdr 17 (by decide) (by decide)) (tdr 18 (by decide) (by decide))
      have cT : CpA (rdO len 24 (rdS I) men 0 s 0).2.1 15 (ayM (MI X2 s2 e2)) 1 := cp_trans (cp_trans cI1 ay_told) (cp_same (vx 1 (by decide) (by decide) (by decide) (by decide) (by decide)) (vx 2 (by decide) (by decide) (by decide) (by decide) (by decide)) (vx 3 (by decide) (by decide) (by decide) (by decide) (by decide)) (vx 4 (by decide) (by decide) (by decide) (by decide) (by decide)))
      have cN : CpA (rdO len 24 (rdS I) men 0 s 0).2.1 15 (ayM (MI X2 s2 e2)) 5 := cp_trans (cp_trans cI1 ay_now) (cp_same (vx 5 (by decide) (by decide) (by decide) (by decide) (by decide)) (vx 6 (by decide) (by decide) (by decide) (by decide) (by decide)) (vx 7 (by decide) (by decide) (by decide) (by decide) (by decide)) (vx 8 (by decide) (by decide) (by decide) (by decide) (by decide)))
      have m4 := tdw.mn.2
      obtain ⟨q1, q4, q5⟩ := am_731 (W := MI X2 s2 e2)
      have hi := (am_74 (W := MI X2 s2 e2)).1
      have lo := (am_74 (W := MI X2 s2 e2)).2
      rw [w74] at hi lo
      have dayN : ayM (MI X2 s2 e2) 5 4 = nI 0 := by rw [cN.2.1]; exact tdd
      refine ⟨⟨0, by decide, ?_, q4, fun i hi => absurd hi (by omega)⟩, ⟨0, by decide, ?_, q5, fun i hi => absurd hi (by omega)⟩, pSheet_all (fun s hs => Or.inl ⟨?_, ?_, am_81 hs⟩), ?_, ⟨m', ?_⟩, ⟨m', ⟨?_, 0, by decide, dayN⟩, ?_, ?_⟩⟩
      · rw [vx 13 (by decide) (by decide) (by decide) (by decide) (by decide), ay_13, pk_us]; rfl
      · rw [vx 63 (by decide) (by decide) (by decide) (by decide) (by decide), ay_63]; rfl
      · rw [vx _ (by omega) (by omega) (by omega) (by omega) (by omega)]; exact (ay_sh hs).1
      · rw [vx _ (by omega) (by omega) (by omega) (by omega) (by omega)]; exact (ay_sh hs).2
      · exact pWord_c yW (fun w hw => vx _ (by omega) (by omega) (by omega) (by omega) (by omega))
      · refine ⟨cp_wf tdw cT, by rw [cT.2.1]; exact tdd, by rw [hi 43 (by decide)]; exact td43, by rw [hi 42 (by decide)]; exact td42, ?_, ?_, ?_⟩
        · intro j hj; rw [hi _ (by omega), show (2 : Nat) = 1 + 1 from rfl, cT.2.2.1 j (by omega)]; exact tdk j hj
        · intro j hj; rw [hi _ (by omega), show (3 : Nat) = 1 + 2 from rfl, cT.2.2.2.1 j (by omega)]; exact tdb j hj
        · intro j hj; rw [hi _ (by omega), show (4 : Nat) = 1 + 3 from rfl, cT.2.2.2.2 j (by omega)]; exact tdm j hj
      · refine ⟨cp_wf tdw cN, by decide, by rw [lo 17 (by decide)]; exact td43, ?_, ?_, ?_, ?_⟩
        · intro j hj; rw [lo _ (by omega), cN.2.2.1 j (by omega), show 26 + (18 + j) = 44 + j by omega]; exact tdk j hj
        · intro j hj; rw [lo _ (by omega), cN.2.2.2.1 j (by omega), show 26 + (0 + j) = 26 + j by omega]; exact tdb j hj
        · intro j hj; rw [lo _ (by omega), cN.2.2.2.2 j (by omega), show 26 + (0 + 8 + j) = 34 + j by omega]; exact tdm j hj
        · rw [lo _ (by omega), cN.2.1, show 26 + (0 + 16) = 42 from rfl, td42]; exact tdd.symm
      · exact ⟨0, 0, by decide, by decide, by rw [vx 19 (by decide) (by decide) (by decide) (by decide) (by decide)]; exact ay_19.1, by rw [vx 19 (by decide) (by decide) (by decide) (by decide) (by decide)]; exact ay_19.2, q1, fun k hk => absurd hk (by omega)⟩
      · intro k hk
        rw [vx 62 (by decide) (by decide) (by decide) (by decide) (by decide), ay_62 hk, am_75 hk]
        exact ⟨rfl, Or.inl rfl⟩
  · -- a fault
    obtain ⟨X1, s1, e1, k1, a1, a2, a3, a4, a5, a9, a10⟩ := rd1 I1 0 (Or.inl rfl) inv1.2.2.2.1 (by rw [c73]; exact t2) (by rw [c74]; exact h43) c76
    have k1' : k1 = 0 := by
      rcases a2 with r | r
      · exact r
      · rw [r, if_neg (by decide)] at a3; exact absurd a3 q
    subst k1'
    refine ⟨-4, I1, MI X1 s1 e1, J, ?_, ?_, inv_kp inv1 (rd_kp a5 rfl)⟩
    · simp only [e_Main_army, s_Main_army_0, s_Main_army_1, s_Main_army_4, s_Main_army_5, s_Main_army_8 rcv_13, g_0_0, g_0_3, on, Option.bind_some, Option.toList_some, Option.toList_none, List.cons_append, List.nil_append, i10, i01, if_false, if_true, nI_add, nI_1, s_Main_army_11, s_Main_army_12, if_neg q, s_Main_army_15, s_Main_army_17]
    · simp only [e_Model_army, s_Model_army_0, s_Model_army_1, s_Model_army_2 rcv_73, a1, Option.bind_some, Option.toList_some, Option.toList_none, List.cons_append, List.nil_append, i10, i01, if_false, if_true, nI_add, nI_1, s_Model_army_5, s_Model_army_8, s_Model_army_10]
end Cal
