/-! ===== what is done: the past grows ===== -/
section Cal
variable {F : jx_F} {lv : Nat} {I I1 I3 : Nat → Nat → Int32} {J : Nat → Nat → Int64} {n : Nat}
theorem kpp_loop : ∀ (c k : Nat), k + c = 119 → ev F lv jm_Model_keepPast 11 [.ref 73, .int (nI k)] [] (HH (upF I 74 52 (fun j => I 74 (69 + j)) k) J) = ev F lv jm_Model_keepPast 41 [.ref 73, .int (nI 119)] [] (HH (upF I 74 52 (fun j => I 74 (69 + j)) 119) J) := by
  have e1 : (119 : Int32) = nI 119 := rfl
  have e52 : (52 : Int32) = nI 52 := rfl
  have e69 : (69 : Int32) = nI 69 := rfl
  intro c
  induction c with
  | zero =>
    intro k hk
    obtain rfl : k = 119 := by omega
    rw [s_Model_keepPast_11]
    simp only [s_Model_keepPast_12, s_Model_keepPast_14, e1, if_pos (nI_le (Nat.le_refl 119) (show 119 < 2 ^ 31 by decide))]
  | succ c ih =>
    intro k hk
    have er : upF I 74 52 (fun j => I 74 (69 + j)) k 74 (69 + k) = I 74 (69 + k) := upF_out (by omega)
    rw [s_Model_keepPast_11]
    simp only [s_Model_keepPast_12, s_Model_keepPast_14, e1, if_neg (nI_ge (show k < 119 by omega) (show 119 < 2 ^ 31 by decide)), s_Model_keepPast_17, s_Model_keepPast_18, s_Model_keepPast_21, s_Model_keepPast_23, s_Model_keepPast_24, s_Model_keepPast_25, s_Model_keepPast_26, s_Model_keepPast_29, s_Model_keepPast_31, s_Model_keepPast_32, s_Model_keepPast_33, s_Model_keepPast_34, s_Model_keepPast_35, s_Model_keepPast_38, g_73_0, e52, e69, nI_add, g74 (show 69 + k < 239 by omega), er, p74 (show 52 + k < 239 by omega), nI_1]
    rw [upF_s rfl]
    exact ih (k + 1) (by omega)
/-- what the Model keeps of the past -/
def Kpp (I I' : Nat → Nat → Int32) (num : Nat) : Prop :=
  (∀ x, x ≠ 73 → x ≠ 74 → I' x = I x) ∧ (∀ y, y ≠ 1 → I' 73 y = I 73 y) ∧ I' 73 1 = nI (min 8 (num + 1)) ∧ (∀ y, y < 52 ∨ 188 ≤ y → I' 74 y = I 74 y) ∧ (∀ k, k < 17 → I' 74 (52 + 17 * min 7 num + k) = I 74 k) ∧ (∀ p, p < min 7 num → ∀ k, k < 17 → I' 74 (52 + 17 * p + k) = I 74 (52 + 17 * (p + if num = 8 then 1 else 0) + k))
theorem mkeep_in {num : Nat} (hn : num ≤ 8) (e : I 73 1 = nI num) : ∃ I', rn F (lv + 1) 136 [.ref 73] (HH I J) = some (none, HH I' J) ∧ Kpp I I' num := by
  have e8 : (8 : Int32) = nI 8 := rfl
  have e17 : (17 : Int32) = nI 17 := rfl
  have e52 : (52 : Int32) = nI 52 := rfl
  by_cases q : num = 8
  · subst q
    have l := kpp_loop (F := F) (lv := lv + 1) (I := I) (J := J) 119 0 (by omega)
    rw [upF_0] at l
    have l' : ev F (lv + 1) jm_Model_keepPast 11 [.ref 73, .int 0] [] (HH I J) = _ := l
    have e' : upF I 74 52 (fun j => I 74 (69 + j)) 119 73 1 = nI 8 := by rw [upF_ne (by decide)]; exact e
    have c := mcopy_in (F := F) (lv := lv) (I := up2 (upF I 74 52 (fun j => I 74 (69 + j)) 119) 73 1 (nI 7)) (J := J) (f := 0) (t := 171) (N := 17) (by decide) (by decide) (by decide)
    rw [show nI 0 = (0 : Int32) from rfl] at c
    refine ⟨up2 (upF (up2 (upF I 74 52 (fun j => I 74 (69 + j)) 119) 73 1 (nI 7)) 74 171 (fun j => up2 (upF I 74 52 (fun j => I 74 (69 + j)) 119) 73 1 (nI 7) 74 (0 + j)) 17) 73 1 (nI 8), ?_, ?_⟩
    · simp only [e_Model_keepPast, s_Model_keepPast_0, s_Model_keepPast_1, s_Model_keepPast_4, s_Model_keepPast_6, g_73_1, e, ← e8, if_true, s_Model_keepPast_9, s_Model_keepPast_10, l']
      simp only [s_Model_keepPast_41, s_Model_keepPast_42, s_Model_keepPast_43, s_Model_keepPast_46, s_Model_keepPast_47, s_Model_keepPast_48, g_73_1, e', show nI 8 - 1 = nI 7 from rfl, p_73_1, s_Model_keepPast_51, s_Model_keepPast_52, s_Model_keepPast_53, s_Model_keepPast_55, s_Model_keepPast_57, s_Model_keepPast_58, up2_eq, pk_us, s_Model_keepPast_61, s_Model_keepPast_62, s_Model_keepPast_63, s_Model_keepPast_65 rcv_73, show (52 : Int32) + 17 * nI 7 = nI 171 from rfl]
      rw [e17, c]
      simp only [Option.bind_some, Option.toList_none, List.nil_append, s_Model_keepPast_68, s_Model_keepPast_69, s_Model_keepPast_70, s_Model_keepPast_73, s_Model_keepPast_74, s_Model_keepPast_75, s_Model_keepPast_78, g_73_1, upF_ne (show 73 ≠ 74 by decide), up2_eq, pk_us, show nI 7 + 1 = nI 8 from rfl, p_73_1]
      rw [← e8]
    · refine ⟨fun x h1 h2 => ?_, fun y h1 => ?_, ?_, fun y hy => ?_, fun k hk => ?_, fun p hp k hk => ?_⟩
      · rw [up2_ne h1, upF_ne h2, up2_ne h1, upF_ne h2]
      · rw [up2_eq, pk_un h1, upF_ne (by decide), up2_eq, pk_un h1, upF_ne (by decide)]
      · rw [up2_eq, pk_us]; rfl
      · rw [up2_ne (by decide), upF_out (by omega), up2_ne (by decide), upF_out (by omega)]
      · rw [up2_ne (by decide), show 52 + 17 * min 7 8 + k = 171 + k by omega, upF_in hk, up2_ne (by decide), upF_out (by omega), Nat.zero_add]
      · rw [up2_ne (by decide), upF_out (by omega), up2_ne (by decide), show 52 + 17 * p + k = 52 + (17 * p + k) by omega, upF_in (by omega), if_pos rfl]
        congr 1; omega
  · have c := mcopy_in (F := F) (lv := lv) (I := I) (J := J) (f := 0) (t := 52 + 17 * num) (N := 17) (by omega) (by omega) (by omega)
    rw [show nI 0 = (0 : Int32) from rfl] at c
    have em : (52 : Int32) + 17 * nI num = nI (52 + 17 * num) := by rw [show (17 : Int32) * nI num = nI (17 * num) from pk_mul 17 num, e52, nI_add]
    refine ⟨up2 (upF I 74 (52 + 17 * num) (fun j => I 74 (0 + j)) 17) 73 1 (nI (num + 1)), ?_, ?_⟩
    · simp only [e_Model_keepPast, s_Model_keepPast_0, s_Model_keepPast_1, s_Model_keepPast_4, s_Model_keepPast_6, g_73_1, e, e8, nI_eq (show num < 2 ^ 31 by omega) (show 8 < 2 ^ 31 by decide), if_neg q, s_Model_keepPast_51, s_Model_keepPast_52, s_Model_keepPast_53, s_Model_keepPast_55, s_Model_keepPast_57, s_Model_keepPast_58, s_Model_keepPast_61, s_Model_keepPast_62, s_Model_keepPast_63, s_Model_keepPast_65 rcv_73, em]
      rw [e17, c]
      simp only [Option.bind_some, Option.toList_none, List.nil_append, s_Model_keepPast_68, s_Model_keepPast_69, s_Model_keepPast_70, s_Model_keepPast_73, s_Model_keepPast_74, s_Model_keepPast_75, s_Model_keepPast_78, g_73_1, upF_ne (show 73 ≠ 74 by decide), e, nI_1, p_73_1]
    · refine ⟨fun x h1 h2 => ?_, fun y h1 => ?_, ?_, fun y hy => ?_, fun k hk => ?_, fun p hp k hk => ?_⟩
      · rw [up2_ne h1, upF_ne h2]
      · rw [up2_eq, pk_un h1, upF_ne (by decide)]
      · rw [up2_eq, pk_us]; congr 1; omega
      · rw [up2_ne (by decide), upF_out (by omega)]
      · rw [up2_ne (by decide), show 52 + 17 * min 7 num + k = 52 + 17 * num + k by omega, upF_in hk, Nat.zero_add]
      · rw [up2_ne (by decide), upF_out (by omega), if_neg q, Nat.add_zero]
theorem pA_cp {a b a' b' : Nat} (h : pA I n a b) (hc : CpA I a I3 a') (hb : b' ≤ 222) (h17 : ∀ y, 17 ≤ y → y < 26 → I3 74 y = I 74 y) (hr : ∀ k, k < 17 → I3 74 (b' + k) = I 74 (b + k)) : pA I3 n a' b' :=
  ⟨rw_cp h.1 hc hb h17 hr, by rw [hc.2.1]; exact h.2⟩
theorem rg_new {nx num k : Nat} (hx : nx < 8) (hn : num < 8) (hk : k < num) : rg (ringN nx) (num + 1) k = rg nx num k ∧ rg nx num k ≠ nx := by
  unfold rg ringN
  split <;> omega
theorem rg_new8 {nx k : Nat} (hx : nx < 8) (hk : k < 7) : rg (ringN nx) 8 k = rg nx 8 (k + 1) ∧ rg nx 8 (k + 1) ≠ nx := by
  unfold rg ringN
  split <;> omega
theorem rg_top {nx num : Nat} (hx : nx < 8) (hn : num ≤ 8) : rg (ringN nx) (min 8 (num + 1)) (min 7 num) = nx := by
  unfold rg ringN
  split <;> omega
theorem inv_done {nx num : Nat} (h : Inv I J) (hN : pA I n 5 0) (hx : nx < 8) (hu : num ≤ 8) (hp : ∀ k, k < num → pA I n (21 + 4 * rg nx num k) (52 + 17 * k)) (hK : pKept I n)
    (c1 : ∀ x, x < 73 → ¬ (5 ≤ x ∧ x ≤ 12) → x ≠ 19 → ¬ (21 + 4 * nx ≤ x ∧ x ≤ 24 + 4 * nx) → I3 x = I x) (c2 : ∀ x, 75 ≤ x → x < 92 → I3 x = I x)
    (k1 : I3 19 1 = nI (ringN nx)) (k2 : I3 19 2 = nI (min 8 (num + 1))) (k3 : I3 73 1 = nI (min 8 (num + 1))) (k4 : I3 73 4 = I 73 4) (k5 : I3 73 5 = I 73 5)
    (hc : CpA I 5 I3 (21 + 4 * nx)) (r0 : ∀ y, 17 ≤ y → y < 52 ∨ 188 ≤ y → y < 222 → I3 74 y = I 74 y) (r1 : ∀ k, k < 17 → I3 74 (52 + 17 * min 7 num + k) = I 74 k)
    (r2 : ∀ p, p < min 7 num → ∀ k, k < 17 → I3 74 (52 + 17 * p + k) = I 74 (52 + 17 * (p + if num = 8 then 1 else 0) + k)) (hN3 : pA I3 n 5 0) : Inv I3 J := by
  refine inv_arm h (fun x hx' => ?_) k4 k5 (fun y h1 h2 => r0 y (by omega) (by omega) (by omega)) ⟨n, hN3, ?_, ?_⟩
  · obtain ⟨a, b, c, d, e, f⟩ := hx'
    by_cases w : x < 73
    · exact c1 x w a (by omega) (by omega)
    · exact c2 x (by omega) f
  · refine ⟨ringN nx, min 8 (num + 1), by unfold ringN; split <;> omega, by omega, k1, k2, k3, ?_⟩
    intro k hk
    by_cases w : k = min 7 num
    · subst w
      rw [rg_top hx hu]
      exact pA_cp hN hc (by omega) (fun y h1 h2 => r0 y h1 (by omega) (by omega)) (fun k hk => by rw [r1 k hk, Nat.zero_add])
    · have hl := fun k => rg_lt (nx := nx) (num := num) (k := k)
      by_cases w8 : num = 8
      · subst w8
        have e1 := rg_new8 hx (show k < 7 by omega)
        have e2 : min 8 (8 + 1) = 8 := by omega
        rw [e2, e1.1]
        have hl' := hl (k + 1)
        have ne := e1.2
        have cc : ∀ d, d ≤ 3 → I3 (21 + 4 * rg nx 8 (k + 1) + d) = I (21 + 4 * rg nx 8 (k + 1) + d) := fun d hd => c1 _ (by omega) (by omega) (by omega) (by omega)
        refine pA_cp (hp (k + 1) (by omega)) (cp_same (cc 0 (by omega)) (cc 1 (by omega)) (cc 2 (by omega)) (cc 3 (by omega))) (by omega) (fun y h1 h2 => r0 y h1 (by omega) (by omega)) (fun m hm => ?_)
        rw [r2 k (by omega) m hm, if_pos rfl]
      · have e1 := rg_new hx (show num < 8 by omega) (show k < num by omega)
        have e2 : min 8 (num + 1) = num + 1 := by omega
        rw [e2, e1.1]
        have hl' := hl k
        have ne := e1.2
        have cc : ∀ d, d ≤ 3 → I3 (21 + 4 * rg nx num k + d) = I (21 + 4 * rg nx num k + d) := fun d hd => c1 _ (by omega) (by omega) (by omega) (by omega)
        refine pA_cp (hp k (by omega)) (cp_same (cc 0 (by omega)) (cc 1 (by omega)) (cc 2 (by omega)) (cc 3 (by omega))) (by omega) (fun y h1 h2 => r0 y h1 (by omega) (by omega)) (fun m hm => ?_)
        rw [r2 k (by omega) m hm, if_neg w8, Nat.add_zero]
  · exact pKept_c hK (c1 62 (by decide) (by decide) (by decide) (by omega)) (c2 75 (by decide) (by decide)) (fun x _ _ => c1 x (by omega) (by omega) (by omega) (by omega)) (fun y h1 h2 => r0 y h1 (by omega) (by omega)) (fun y h1 h2 => r0 y (by omega) (by omega) (by omega))
end Cal
