/-! ===== army ===== -/
/-- what the class's army leaves: the told and the new army from the draft, the rest as at first -/
def ayI (Y : Nat → Nat → Int32) : Nat → Nat → Int32 :=
  up2 (up2 (up2 (up2 (up2 (up2 (up2 (up2 (up2 (up2 (up2 (up2 (takeI (takeI Y 1 15) 5 1) 13 2 0) 19 1 0) 19 2 0) 62 0 0) 62 1 0) 63 2 0) 67 1 (-1)) 67 2 0) 69 1 (-1)) 69 2 0) 71 1 (-1)) 71 2 0
/-- what the Model's army leaves behind the reading -/
def ayM (W : Nat → Nat → Int32) : Nat → Nat → Int32 :=
  up2 (up2 (up2 (up2 (up2 (up2 (up2 (upF (up2 W 73 4 0) 74 0 (fun j => up2 W 73 4 0 74 (26 + j)) 26) 73 1 0) 75 0 0) 75 1 0) 73 5 0) 81 0 (-1)) 81 1 (-1)) 81 2 (-1)
section Cal
variable {nn : Nat} {xs : Nat → Int32} {fm : Value} {F : jx_F} {lv : Nat} {I Y W : Nat → Nat → Int32} {J : Nat → Nat → Int64}
theorem ay_ne {x : Nat} (h : ¬ (1 ≤ x ∧ x ≤ 8)) (h13 : x ≠ 13) (h19 : x ≠ 19) (h62 : x ≠ 62) (h63 : x ≠ 63) (h67 : x ≠ 67) (h69 : x ≠ 69) (h71 : x ≠ 71) : ayI Y x = Y x := by
  unfold ayI
  rw [up2_ne h71, up2_ne h71, up2_ne h69, up2_ne h69, up2_ne h67, up2_ne h67, up2_ne h63, up2_ne h62, up2_ne h62, up2_ne h19, up2_ne h19, up2_ne h13, take_ne (by omega) (by omega) (by omega) (by omega), take_ne (by omega) (by omega) (by omega) (by omega)]
theorem ay_arm {x : Nat} (h : x ≤ 8) : ayI Y x = takeI (takeI Y 1 15) 5 1 x := by
  unfold ayI
  rw [up2_ne (by omega), up2_ne (by omega), up2_ne (by omega), up2_ne (by omega), up2_ne (by omega), up2_ne (by omega), up2_ne (by omega), up2_ne (by omega), up2_ne (by omega), up2_ne (by omega), up2_ne (by omega), up2_ne (by omega)]
theorem ay_told : CpA Y 15 (ayI Y) 1 := by
  refine cp_trans (cp_take (C := Y) (a := 1) (b := 15)) (cp_same ?_ ?_ ?_ ?_)
  · rw [ay_arm (by decide), take_ne (by decide) (by decide) (by decide) (by decide)]
  · rw [ay_arm (by decide), take_ne (by decide) (by decide) (by decide) (by decide)]
  · rw [ay_arm (by decide), take_ne (by decide) (by decide) (by decide) (by decide)]
  · rw [ay_arm (by decide), take_ne (by decide) (by decide) (by decide) (by decide)]
theorem ay_now : CpA Y 15 (ayI Y) 5 := by
  refine cp_trans (cp_trans (cp_take (C := Y) (a := 1) (b := 15)) (cp_take (C := takeI Y 1 15) (a := 5) (b := 1))) (cp_same ?_ ?_ ?_ ?_)
  · rw [ay_arm (by decide)]
  · rw [ay_arm (by decide)]
  · rw [ay_arm (by decide)]
  · rw [ay_arm (by decide)]
theorem ay_13 : ayI Y 13 = upd (Y 13) 2 0 := by
  unfold ayI
  rw [up2_ne (by decide), up2_ne (by decide), up2_ne (by decide), up2_ne (by decide), up2_ne (by decide), up2_ne (by decide), up2_ne (by decide), up2_ne (by decide), up2_ne (by decide), up2_ne (by decide), up2_ne (by decide), up2_eq, take_ne (by decide) (by decide) (by decide) (by decide), take_ne (by decide) (by decide) (by decide) (by decide)]
theorem ay_19 : ayI Y 19 1 = 0 ∧ ayI Y 19 2 = 0 := by
  have e : ∀ j, ayI Y 19 j = up2 (up2 (up2 (takeI (takeI Y 1 15) 5 1) 13 2 0) 19 1 0) 19 2 0 19 j := fun j => by
    unfold ayI
    rw [up2_ne (by decide), up2_ne (by decide), up2_ne (by decide), up2_ne (by decide), up2_ne (by decide), up2_ne (by decide), up2_ne (by decide), up2_ne (by decide), up2_ne (by decide)]
  constructor
  · rw [e, up2_eq, pk_un (by decide), up2_eq, pk_us]
  · rw [e, up2_eq, pk_us]
theorem ay_62 {k : Nat} (h : k < 2) : ayI Y 62 k = 0 := by
  unfold ayI
  rw [up2_ne (by decide), up2_ne (by decide), up2_ne (by decide), up2_ne (by decide), up2_ne (by decide), up2_ne (by decide), up2_ne (by decide), up2_eq]
  by_cases w : k = 1
  · rw [w, pk_us]
  · rw [pk_un w, up2_eq, show k = 0 by omega, pk_us]
theorem ay_63 : ayI Y 63 2 = 0 := by
  unfold ayI
  rw [up2_ne (by decide), up2_ne (by decide), up2_ne (by decide), up2_ne (by decide), up2_ne (by decide), up2_ne (by decide), up2_eq, pk_us]
theorem ay_sh {s : Nat} (h : s < 3) : ayI Y (67 + 2 * s) 1 = -1 ∧ ayI Y (67 + 2 * s) 2 = 0 := by
  unfold ayI
  match s, h with
  | 0, _ =>
    constructor
    · show up2 _ 71 2 0 67 1 = _
      rw [up2_ne (by decide), up2_ne (by decide), up2_ne (by decide), up2_ne (by decide), up2_eq, pk_un (by decide), up2_eq, pk_us]
    · show up2 _ 71 2 0 67 2 = _
      rw [up2_ne (by decide), up2_ne (by decide), up2_ne (by decide), up2_ne (by decide), up2_eq, pk_us]
  | 1, _ =>
    constructor
    · show up2 _ 71 2 0 69 1 = _
      rw [up2_ne (by decide), up2_ne (by decide), up2_eq, pk_un (by decide), up2_eq, pk_us]
    · show up2 _ 71 2 0 69 2 = _
      rw [up2_ne (by decide), up2_ne (by decide), up2_eq, pk_us]
  | 2, _ =>
    constructor
    · show up2 _ 71 2 0 71 1 = _
      rw [up2_eq, pk_un (by decide), up2_eq, pk_us]
    · show up2 _ 71 2 0 71 2 = _
      rw [up2_eq, pk_us]
theorem am_ne {x : Nat} (h73 : x ≠ 73) (h74 : x ≠ 74) (h75 : x ≠ 75) (h81 : x ≠ 81) : ayM W x = W x := by
  unfold ayM
  rw [up2_ne h81, up2_ne h81, up2_ne h81, up2_ne h73, up2_ne h75, up2_ne h75, up2_ne h73, upF_ne h74, up2_ne h73]
theorem am_73 {j : Nat} (h1 : j ≠ 1) (h4 : j ≠ 4) (h5 : j ≠ 5) : ayM W 73 j = W 73 j := by
  unfold ayM
  rw [up2_ne (by decide), up2_ne (by decide), up2_ne (by decide), up2_eq, pk_un h5, up2_ne (by decide), up2_ne (by decide), up2_eq, pk_un h1, upF_ne (by decide), up2_eq, pk_un h4]
theorem am_731 : ayM W 73 1 = 0 ∧ ayM W 73 4 = 0 ∧ ayM W 73 5 = 0 := by
  unfold ayM
  refine ⟨?_, ?_, ?_⟩
  · rw [up2_ne (by decide), up2_ne (by decide), up2_ne (by decide), up2_eq, pk_un (by decide), up2_ne (by decide), up2_ne (by decide), up2_eq, pk_us]
  · rw [up2_ne (by decide), up2_ne (by decide), up2_ne (by decide), up2_eq, pk_un (by decide), up2_ne (by decide), up2_ne (by decide), up2_eq, pk_un (by decide), upF_ne (by decide), up2_eq, pk_us]
  · rw [up2_ne (by decide), up2_ne (by decide), up2_ne (by decide), up2_eq, pk_us]
theorem am_74 : (∀ y, 26 ≤ y → ayM W 74 y = W 74 y) ∧ ∀ k, k < 26 → ayM W 74 k = W 74 (26 + k) := by
  have e : ∀ y, ayM W 74 y = upF (up2 W 73 4 0) 74 0 (fun j => up2 W 73 4 0 74 (26 + j)) 26 74 y := fun y => by
    unfold ayM
    rw [up2_ne (by decide), up2_ne (by decide), up2_ne (by decide), up2_ne (by decide), up2_ne (by decide), up2_ne (by decide), up2_ne (by decide)]
  refine ⟨fun y hy => ?_, fun k hk => ?_⟩
  · rw [e, upF_out (by omega), up2_ne (by decide)]
  · have u := upF_in (I := up2 W 73 4 0) (c := 74) (b := 0) (g := fun j => up2 W 73 4 0 74 (26 + j)) (k := 26) hk
    rw [Nat.zero_add] at u
    rw [e, u, up2_ne (by decide)]
theorem am_75 {k : Nat} (h : k < 2) : ayM W 75 k = 0 := by
  unfold ayM
  rw [up2_ne (by decide), up2_ne (by decide), up2_ne (by decide), up2_ne (by decide), up2_eq]
  by_cases w : k = 1
  · rw [w, pk_us]
  · rw [pk_un w, up2_eq, show k = 0 by omega, pk_us]
theorem am_81 {s : Nat} (h : s < 3) : ayM W 81 s = -1 := by
  unfold ayM
  rw [up2_eq]
  by_cases w : s = 2
  · rw [w, pk_us]
  · rw [pk_un w, up2_eq]
    by_cases w1 : s = 1
    · rw [w1, pk_us]
    · rw [pk_un w1, up2_eq, show s = 0 by omega, pk_us]
theorem vb0 : vp_nar .boolean 0 = 0 := by decide
/-- the class's army behind a text without fault -/
theorem ay_run : ev F (lv + 2) jm_Main_army 18 [.ref 0, jx_junk] [] (HH Y J) = some (some (.int (Y 13 3)), HH (ayI Y) J) := by
  have e0 : (0 : Int32) = nI 0 := rfl
  have e2 : (2 : Int32) = nI 2 := rfl
  have e3 : (3 : Int32) = nI 3 := rfl
  have p62 : ∀ {α : Type} {Z : Nat → Nat → Int32} {k : Nat} {x : Int32} {f : jx_H → Option α}, k < 2 → jx_pi (HH Z J) 2 62 (nI k) x f = f (HH (up2 Z 62 k x) J) := fun {α Z k x f} hk => by rw [pi_62, at_in hk (by decide), nI_clamp (by omega)]
  have f13 : ayI Y 13 3 = Y 13 3 := by rw [ay_13, pk_un (by decide)]
  have st1 : ev F (lv + 2) jm_Main_army 18 [.ref 0, jx_junk] [] (HH Y J) = ev F (lv + 2) jm_Main_army 60 [.ref 0, .int (nI 0)] [] (HH (up2 (up2 (up2 (takeI (takeI Y 1 15) 5 1) 13 2 0) 19 1 0) 19 2 0) J) := by
    simp only [s_Main_army_18, s_Main_army_19, s_Main_army_22, s_Main_army_23, s_Main_army_26, s_Main_army_29 (ar_rcv ar_1), g_0_0, g_0_1, g_0_3, g_0_4, g_13_1, take_in ar_1 ar_15 (show 15 + 3 < 1 ∨ 1 + 3 < 15 by decide), Option.bind_some, Option.toList_some, Option.toList_none, List.cons_append, List.nil_append, i10, i01, if_false, if_true, nI_add, nI_1, s_Main_army_32, s_Main_army_33, s_Main_army_36, s_Main_army_37, s_Main_army_40 (ar_rcv ar_5), take_in ar_5 ar_1 (show 1 + 3 < 5 ∨ 5 + 3 < 1 by decide), s_Main_army_43, s_Main_army_44, s_Main_army_47, s_Main_army_48, p_13_2, s_Main_army_51, s_Main_army_52, s_Main_army_55 rcv_19, clear_eq, s_Main_army_58, s_Main_army_59]
    rfl
  rw [st1, s_Main_army_60]
  simp only [s_Main_army_61, s_Main_army_62, e2, if_neg (nI_ge (show 0 < 2 by decide) (show 2 < 2 ^ 31 by decide)), s_Main_army_65, s_Main_army_66, s_Main_army_69, s_Main_army_70, s_Main_army_71, g_0_6, vb0, p62 (show 0 < 2 by decide), s_Main_army_72, s_Main_army_75, nI_1]
  rw [s_Main_army_60]
  simp only [s_Main_army_61, s_Main_army_62, e2, if_neg (nI_ge (show 0 + 1 < 2 by decide) (show 2 < 2 ^ 31 by decide)), s_Main_army_65, s_Main_army_66, s_Main_army_69, s_Main_army_70, s_Main_army_71, g_0_6, vb0, p62 (show 0 + 1 < 2 by decide), s_Main_army_72, s_Main_army_75, nI_1]
  rw [s_Main_army_60]
  simp only [s_Main_army_61, s_Main_army_62, e2, if_pos (nI_le (show 2 ≤ 0 + 1 + 1 by decide) (show 0 + 1 + 1 < 2 ^ 31 by decide)), s_Main_army_78, s_Main_army_79, s_Main_army_82, s_Main_army_83, g_0_7, p_63_2, s_Main_army_86, s_Main_army_87]
  rw [s_Main_army_88, e0]
  simp only [s_Main_army_89, s_Main_army_90, e3, if_neg (nI_ge (show 0 < 3 by decide) (show 3 < 2 ^ 31 by decide)), s_Main_army_93, s_Main_army_94, s_Main_army_97, s_Main_army_98, g_0_8, ga_sh (show 0 < 3 by decide), s_Main_army_99 (sh_rcv (sh_s (show 0 < 3 by decide))), lose_eq (sh_s (show 0 < 3 by decide)), Option.bind_some, Option.toList_some, Option.toList_none, List.cons_append, List.nil_append, i10, i01, if_false, if_true, nI_add, nI_1, s_Main_army_102, s_Main_army_105]
  rw [s_Main_army_88]
  simp only [s_Main_army_89, s_Main_army_90, e3, if_neg (nI_ge (show 0 + 1 < 3 by decide) (show 3 < 2 ^ 31 by decide)), s_Main_army_93, s_Main_army_94, s_Main_army_97, s_Main_army_98, g_0_8, ga_sh (show 0 + 1 < 3 by decide), s_Main_army_99 (sh_rcv (sh_s (show 0 + 1 < 3 by decide))), lose_eq (sh_s (show 0 + 1 < 3 by decide)), Option.bind_some, Option.toList_some, Option.toList_none, List.cons_append, List.nil_append, i10, i01, if_false, if_true, nI_add, nI_1, s_Main_army_102, s_Main_army_105]
  rw [s_Main_army_88]
  simp only [s_Main_army_89, s_Main_army_90, e3, if_neg (nI_ge (show 0 + 1 + 1 < 3 by decide) (show 3 < 2 ^ 31 by decide)), s_Main_army_93, s_Main_army_94, s_Main_army_97, s_Main_army_98, g_0_8, ga_sh (show 0 + 1 + 1 < 3 by decide), s_Main_army_99 (sh_rcv (sh_s (show 0 + 1 + 1 < 3 by decide))), lose_eq (sh_s (show 0 + 1 + 1 < 3 by decide)), Option.bind_some, Option.toList_some, Option.toList_none, List.cons_append, List.nil_append, i10, i01, if_false, if_true, nI_add, nI_1, s_Main_army_102, s_Main_army_105]
  rw [s_Main_army_88]
  simp only [s_Main_army_89, s_Main_army_90, e3, if_pos (nI_le (show 3 ≤ 0 + 1 + 1 + 1 by decide) (show 0 + 1 + 1 + 1 < 2 ^ 31 by decide)), s_Main_army_108, s_Main_army_109, s_Main_army_112, s_Main_army_115, g_0_3, g_13_3]
  exact congrArg (fun v => some (some (Value.int v), HH (ayI Y) J)) f13
end Cal
