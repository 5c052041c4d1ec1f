/-! ===== the Model: layArmy, the clauses ===== -/
theorem up2_upF {I : Nat → Nat → Int32} {c b y k : Nat} {g : Nat → Int32} {v : Int32} (h : y < b ∨ b + k ≤ y) : up2 (upF I c b g k) c y v = upF (up2 I c y v) c b g k := by
  funext x
  by_cases hx : x = c
  · subst hx
    funext z
    rw [up2_eq]
    by_cases w : z = y
    · subst w; rw [pk_us, upF_out h, up2_eq, pk_us]
    · rw [pk_un w]
      by_cases q : b ≤ z ∧ z < b + k
      · obtain ⟨i, rfl⟩ : ∃ i, z = b + i := ⟨z - b, by omega⟩
        rw [upF_in (by omega), upF_in (by omega)]
      · rw [upF_out (by omega), upF_out (by omega), up2_eq, pk_un w]
  · rw [up2_ne hx, upF_ne hx, upF_ne hx, up2_ne hx]
theorem upF_loc {I I' : Nat → Nat → Int32} {c b k x : Nat} {g : Nat → Int32} (h : I x = I' x) : upF I c b g k x = upF I' c b g k x := by
  funext y; unfold upF; rw [h]
/-- the Model's told army laid anew -/
def mlay (X : Nat → Nat → Int32) (n : Nat) : Nat → Nat → Int32 := upF (upF (up2 (upF X 74 26 (fun _ => 0) 26) 74 43 (nI n)) 74 26 (fun _ => 3) (2 * n)) 74 34 (begG n) (2 * n)
section Mtx
variable {F : jx_F} {lv : Nat} {X B : Nat → Nat → Int32} {J : Nat → Nat → Int64} {s e n men : Nat}
theorem lay_l1 {x : Int32} : ∀ (c k : Nat), k + c = 26 → ev F lv jm_Model_layArmy 2 [.ref 73, .int x, .int (nI k)] [] (HH (upF X 74 26 (fun _ => 0) k) J) = ev F lv jm_Model_layArmy 24 [.ref 73, .int x, .int (nI 26)] [] (HH (upF X 74 26 (fun _ => 0) 26) J) := by
  have e26 : (26 : Int32) = nI 26 := rfl
  intro c
  induction c with
  | zero =>
    intro k hk
    obtain rfl : k = 26 := by omega
    rw [s_Model_layArmy_2]
    simp only [s_Model_layArmy_3, s_Model_layArmy_5, e26, if_pos (nI_le (Nat.le_refl 26) (show 26 < 2 ^ 31 by decide))]
  | succ c ih =>
    intro k hk
    rw [s_Model_layArmy_2]
    simp only [s_Model_layArmy_3, s_Model_layArmy_5, e26, if_neg (nI_ge (show k < 26 by omega) (show 26 < 2 ^ 31 by decide)), s_Model_layArmy_8, s_Model_layArmy_9, s_Model_layArmy_12, s_Model_layArmy_14, s_Model_layArmy_15, s_Model_layArmy_16, s_Model_layArmy_17, s_Model_layArmy_18, s_Model_layArmy_21, g_73_0, nI_add, p74 (show 26 + k < 239 by omega), nI_1]
    rw [upF_s rfl]
    exact ih (k + 1) (by omega)
theorem lay_l2 (h4 : men ≤ 4) : ∀ (c m : Nat), m + c = 2 * men → ev F lv jm_Model_layArmy 34 [.ref 73, .int (nI men), .int (nI m)] [] (HH (upF (upF B 74 26 (fun _ => 3) m) 74 34 (begG men) m) J) = some (none, HH (upF (upF B 74 26 (fun _ => 3) (2 * men)) 74 34 (begG men) (2 * men)) J) := by
  have e26 : (26 : Int32) = nI 26 := rfl
  have e34 : (34 : Int32) = nI 34 := rfl
  intro c
  induction c with
  | zero =>
    intro m hm
    obtain rfl : m = 2 * men := by omega
    rw [s_Model_layArmy_34]
    simp only [s_Model_layArmy_35, s_Model_layArmy_36, s_Model_layArmy_37, s_Model_layArmy_38, show (2 : Int32) * nI men = nI (2 * men) from pk_mul 2 men, if_pos (nI_le (Nat.le_refl (2 * men)) (show 2 * men < 2 ^ 31 by omega)), s_Model_layArmy_80]
  | succ c ih =>
    intro m hm
    have eu : ∀ v, v = begG men m → up2 (up2 (upF (upF B 74 26 (fun _ => 3) m) 74 34 (begG men) m) 74 (26 + m) 3) 74 (34 + m) v = upF (upF B 74 26 (fun _ => 3) (m + 1)) 74 34 (begG men) (m + 1) := by
      intro v hv
      rw [up2_upF (y := 26 + m) (by omega), upF_s hv, upF_s (I := B) (g := fun _ => 3) (v := 3) rfl]
    rw [s_Model_layArmy_34]
    simp only [s_Model_layArmy_35, s_Model_layArmy_36, s_Model_layArmy_37, s_Model_layArmy_38, show (2 : Int32) * nI men = nI (2 * men) from pk_mul 2 men, if_neg (nI_ge (show m < 2 * men by omega) (show 2 * men < 2 ^ 31 by omega)), s_Model_layArmy_41, s_Model_layArmy_42, s_Model_layArmy_45, s_Model_layArmy_47, s_Model_layArmy_48, s_Model_layArmy_49, s_Model_layArmy_50, g_73_0, e26, nI_add, p74 (show 26 + m < 239 by omega), s_Model_layArmy_51, s_Model_layArmy_52, s_Model_layArmy_55, s_Model_layArmy_57, s_Model_layArmy_58, e34, s_Model_layArmy_59, s_Model_layArmy_60, s_Model_layArmy_61]
    by_cases q : men ≤ m
    · simp only [if_pos (nI_le q (show m < 2 ^ 31 by omega)), s_Model_layArmy_70, s_Model_layArmy_71, s_Model_layArmy_72, s_Model_layArmy_73, p74 (show 34 + m < 239 by omega), s_Model_layArmy_74, s_Model_layArmy_77, nI_1]
      rw [eu _ (by unfold begG; rw [if_pos q])]
      exact ih (m + 1) (by omega)
    · simp only [if_neg (nI_ge (show m < men by omega) (show men < 2 ^ 31 by omega)), s_Model_layArmy_64, s_Model_layArmy_65, s_Model_layArmy_66, s_Model_layArmy_67, s_Model_layArmy_73, nI_add, p74 (show 34 + m < 239 by omega), s_Model_layArmy_74, s_Model_layArmy_77, nI_1]
      rw [eu _ (by unfold begG; rw [if_neg q, nI_add])]
      exact ih (m + 1) (by omega)
theorem mlay_in (h4 : men ≤ 4) : rn F lv 106 [.ref 73, .int (nI men)] (HH X J) = some (none, HH (mlay X men) J) := by
  have l1 := lay_l1 (F := F) (lv := lv) (X := X) (J := J) (x := nI men) 26 0 (by omega)
  have l2 := lay_l2 (F := F) (lv := lv) (B := up2 (upF X 74 26 (fun _ => 0) 26) 74 43 (nI men)) (J := J) h4 (2 * men) 0 (by omega)
  rw [upF_0] at l1
  rw [upF_0, upF_0] at l2
  simp only [e_Model_layArmy, s_Model_layArmy_0, s_Model_layArmy_1]
  refine Eq.trans l1 ?_
  simp only [s_Model_layArmy_24, s_Model_layArmy_25, s_Model_layArmy_28, s_Model_layArmy_30, s_Model_layArmy_31, s_Model_layArmy_32, s_Model_layArmy_33, g_73_0]
  rw [show (43 : Int32) = nI 43 from rfl, p74 (show 43 < 239 by decide)]
  exact l2
/-- the Model's row behind a clause -/
def mact (X : Nat → Nat → Int32) (a : Nat × Nat × Nat) : Nat → Nat → Int32 := if a.1 = 0 then mlay X a.2.1 else if a.1 ≤ 5 then up2 X 74 (44 + a.2.1) (nI (a.1 - 1)) else if a.1 = 6 then up2 X 74 (26 + a.2.1) (nI a.2.2) else up2 X 74 (34 + a.2.1) (nI a.2.2)
/-- what a clause changes -/
def RC (X X' : Nat → Nat → Int32) (dv : Int32) (men : Nat) (a : Nat × Nat × Nat) : Prop := (∀ x, x ≠ 73 → x ≠ 74 → x ≠ 83 → X' x = X x) ∧ (∀ j, j ≠ 14 → X' 73 j = X 73 j) ∧ X' 73 14 = nI (menA men a) ∧ X' 74 = if dv = 0 then X 74 else mact X a 74
/-- what a clause that doesn't read changes -/
def RN (X X' : Nat → Nat → Int32) : Prop := ∀ x, x ≠ 83 → X' x = X x
theorem mlay_ne {x : Nat} (h : x ≠ 74) : mlay X n x = X x := by
  unfold mlay; rw [upF_ne h, upF_ne h, up2_ne h, upF_ne h]
theorem mi_lay : mlay (MI X s e) n = MI (mlay X n) s e := by
  funext x
  by_cases hx : x = 73
  · subst hx
    rw [mlay_ne (by decide)]
    unfold MI
    rw [up1_eq, up1_eq, mlay_ne (by decide)]
  · rw [mi_ne hx]
    by_cases h4 : x = 74
    · subst h4
      unfold mlay
      exact upF_loc (upF_loc (up2_loc (upF_loc (mi_ne (by decide)))))
    · rw [mlay_ne h4, mlay_ne h4, mi_ne hx]
theorem mi_14 {v : Int32} : up2 (MI X s e) 73 14 v = MI (up2 X 73 14 v) s e := by
  funext x
  by_cases hx : x = 73
  · subst hx
    funext y
    rw [up2_eq]
    by_cases h4 : y = 12
    · subst h4; rw [pk_un (by decide), mi_12, mi_12]
    · by_cases h5 : y = 13
      · subst h5; rw [pk_un (by decide), mi_13, mi_13]
      · rw [mi_j h4 h5, up2_eq]
        by_cases h3 : y = 14
        · subst h3; rw [pk_us, pk_us]
        · rw [pk_un h3, pk_un h3, mi_j h4 h5]
  · rw [up2_ne hx, mi_ne hx, mi_ne hx, up2_ne hx]
theorem mrK_in {kd : Nat} {dv : Int32} (h4 : 1 ≤ men ∧ men ≤ 4) (hkd : kd ≤ 4) (en : X 73 4 = nI n) (em : X 73 14 = nI men) (ed : X 73 16 = dv) (hn : n ≤ 200) (he : e ≤ n) : ∃ X', match numN (X 76) n (nxS (KX X) n e) (nxE (KX X) n e) 0 (2 * men - 1) with
    | none => rn F (lv + 4) 115 [.ref 73, .int (nI kd)] (HH (MI X s e) J) = some (some (.int 0), HH (MI X' (nxS (KX X) n e) (nxE (KX X) n e)) J) ∧ RN X X'
    | some m => rn F (lv + 4) 115 [.ref 73, .int (nI kd)] (HH (MI X s e) J) = some (some (.int 1), HH (MI X' (nxS (KX X) n (nxE (KX X) n e)) (nxE (KX X) n (nxE (KX X) n e))) J) ∧ RC X X' dv men (kd + 1, m, 0) := by
  have h1 := nx_s (I := KX X) he
  have h2 := nx_e (I := KX X) he
  have e2 : (2 : Int32) * nI men - 1 = nI (2 * men - 1) := by
    rw [show (2 : Int32) * nI men = nI (2 * men) from pk_mul 2 men]; exact pk_sub (show 1 ≤ 2 * men by omega)
  have nb := mnum_in (F := F) (lv := lv) (J := J) (k := 0) (lo := 0) (hi := 2 * men - 1) en hn h1.2 (show nxE (KX X) n e = endN (KX X) n (nxS (KX X) n e) from rfl) (by decide) (by decide) (by omega)
  rw [show nI 0 = (0 : Int32) from rfl] at nb
  cases q : numN (X 76) n (nxS (KX X) n e) (nxE (KX X) n e) 0 (2 * men - 1) with
  | none =>
    rw [q] at nb
    refine ⟨X, ?_, fun _ _ => rfl⟩
    simp only [e_Model_readsKind, s_Model_readsKind_0, s_Model_readsKind_1 rcv_73, s_Model_readsKind_4, s_Model_readsKind_5, s_Model_readsKind_6, s_Model_readsKind_7, s_Model_readsKind_8, s_Model_readsKind_9, s_Model_readsKind_12, s_Model_readsKind_13, s_Model_readsKind_14, s_Model_readsKind_15 rcv_73, s_Model_readsKind_18, s_Model_readsKind_21, rz_Model_readsKind_22, ro_Model_readsKind_22, s_Model_readsKind_23, s_Model_readsKind_24, s_Model_readsKind_27, s_Model_readsKind_30, s_Model_readsKind_31, s_Model_readsKind_34, s_Model_readsKind_36, s_Model_readsKind_37, s_Model_readsKind_40, s_Model_readsKind_41, s_Model_readsKind_42, s_Model_readsKind_43, s_Model_readsKind_44, s_Model_readsKind_45, rz_Model_readsKind_46, ro_Model_readsKind_46, mnxt_in en hn he, Option.bind_some, Option.toList_some, Option.toList_none, List.cons_append, List.nil_append, i10, i01, if_false, if_true, nI_add, nI_1, g_73_14, mi_j (show 14 ≠ 12 by decide) (show 14 ≠ 13 by decide), em, e2, nb]
  | some m =>
    rw [q] at nb
    have hm := num_lt q
    have e44 : (44 : Int32) = nI 44 := rfl
    have ed' : up2 X 83 0 (nI m) 73 16 = dv := by rw [up2_ne (by decide)]; exact ed
    have e83 : up2 X 83 0 (nI m) 83 0 = nI m := by rw [up2_eq, pk_us]
    have g830 : ∀ {α : Type} {Y : Nat → Nat → Int32} {f : Int32 → Option α}, jx_gi (HH Y J) 0 83 0 f = f (Y 83 0) := fun {α Y f} => g83 (k := 0) (by decide)
    by_cases d0 : dv = 0
    · refine ⟨up2 X 83 0 (nI m), ?_, fun x a b c => by rw [up2_ne c], fun j _ => by rw [up2_ne (by decide)], by rw [up2_ne (by decide)]; exact em, by rw [if_pos d0, up2_ne (by decide)]⟩
      simp only [e_Model_readsKind, s_Model_readsKind_0, s_Model_readsKind_1 rcv_73, s_Model_readsKind_4, s_Model_readsKind_5, s_Model_readsKind_6, s_Model_readsKind_7, s_Model_readsKind_8, s_Model_readsKind_9, s_Model_readsKind_12, s_Model_readsKind_13, s_Model_readsKind_14, s_Model_readsKind_15 rcv_73, s_Model_readsKind_18, s_Model_readsKind_21, rz_Model_readsKind_22, ro_Model_readsKind_22, s_Model_readsKind_23, s_Model_readsKind_24, s_Model_readsKind_27, s_Model_readsKind_30, s_Model_readsKind_31, s_Model_readsKind_34, s_Model_readsKind_36, s_Model_readsKind_37, s_Model_readsKind_40, s_Model_readsKind_41, s_Model_readsKind_42, s_Model_readsKind_43, s_Model_readsKind_44, s_Model_readsKind_45, rz_Model_readsKind_46, ro_Model_readsKind_46, mnxt_in en hn he, Option.bind_some, Option.toList_some, Option.toList_none, List.cons_append, List.nil_append, i10, i01, if_false, if_true, nI_add, nI_1, g_73_14, mi_j (show 14 ≠ 12 by decide) (show 14 ≠ 13 by decide), em, e2, nb, g_73_16, mi_j (show 16 ≠ 12 by decide) (show 16 ≠ 13 by decide), ed', if_pos d0]
    · refine ⟨up2 (up2 X 83 0 (nI m)) 74 (44 + m) (nI kd), ?_, fun x a b c => by rw [up2_ne b, up2_ne c], fun j _ => by rw [up2_ne (by decide), up2_ne (by decide)], by rw [up2_ne (by decide), up2_ne (by decide)]; exact em, ?_⟩
      · simp only [e_Model_readsKind, s_Model_readsKind_0, s_Model_readsKind_1 rcv_73, s_Model_readsKind_4, s_Model_readsKind_5, s_Model_readsKind_6, s_Model_readsKind_7, s_Model_readsKind_8, s_Model_readsKind_9, s_Model_readsKind_12, s_Model_readsKind_13, s_Model_readsKind_14, s_Model_readsKind_15 rcv_73, s_Model_readsKind_18, s_Model_readsKind_21, rz_Model_readsKind_22, ro_Model_readsKind_22, s_Model_readsKind_23, s_Model_readsKind_24, s_Model_readsKind_27, s_Model_readsKind_30, s_Model_readsKind_31, s_Model_readsKind_34, s_Model_readsKind_36, s_Model_readsKind_37, s_Model_readsKind_40, s_Model_readsKind_41, s_Model_readsKind_42, s_Model_readsKind_43, s_Model_readsKind_44, s_Model_readsKind_45, rz_Model_readsKind_46, ro_Model_readsKind_46, mnxt_in en hn he, Option.bind_some, Option.toList_some, Option.toList_none, List.cons_append, List.nil_append, i10, i01, if_false, if_true, nI_add, nI_1, g_73_14, mi_j (show 14 ≠ 12 by decide) (show 14 ≠ 13 by decide), em, e2, nb, g_73_16, mi_j (show 16 ≠ 12 by decide) (show 16 ≠ 13 by decide), ed', if_neg d0, g_73_0, g_73_17, g830, mi_ne (show 83 ≠ 73 by decide), e83, e44, p74 (show 44 + m < 239 by omega), mi_up (show 74 ≠ 73 by decide)]
      · rw [if_neg d0]
        unfold mact
        simp only [if_neg (show ¬ kd + 1 = 0 by omega), if_pos (show kd + 1 ≤ 5 by omega)]
        rw [up2_eq, up2_eq, up2_ne (by decide)]
        rfl
end Mtx
