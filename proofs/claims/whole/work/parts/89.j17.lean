/-! ===== coat ===== -/
/-- the trial with s for m's mender -/
def trI (I : Nat → Nat → Int32) (m s : Nat) : Nat → Nat → Int32 := up2 (takeI I 9 5) 12 m (nI s)
def ctS (I : Nat → Nat → Int32) (n D m s : Nat) (p : Int32 × Int32) : Int32 × Int32 := if lbF (trI I m s) n D ≤ p.1 then p else (lbF (trI I m s) n D, nI (10 * m + s))
def ctM (I : Nat → Nat → Int32) (n D m s : Nat) (p : Int32 × Int32) : Int32 × Int32 := if (n ≤ m ↔ n ≤ s) then p else if I 8 m = nI s then p else ctS I n D m s p
section Cal
variable {F : jx_F} {lv : Nat} {I H X Y : Nat → Nat → Int32} {J : Nat → Nat → Int64} {n : Nat}
theorem i64_20 : (20 : Int64) = (20 : Int32).toInt64 := rfl
theorem coat_l1 {D m lo : Nat} (hW : Wf I 5 n) (hD : D < 2 ^ 31) (hm : m < 2 * n) (hlo : lo + n ≤ 2 * n) : ∀ (c s : Nat) (p : Int32 × Int32) (H : Nat → Nat → Int32), s + c = lo + n → HT I H → ∃ H', ev F (lv + 6) jm_Main_coat 80 [.ref 0, .int (nI D), .int p.1, .int p.2, .int (nI m), .int (nI lo), .int (nI s)] [] (HH H J) = ev F (lv + 6) jm_Main_coat 160 [.ref 0, .int (nI D), .int (foldG (ctS I n D m) s c p).1, .int (foldG (ctS I n D m) s c p).2, .int (nI m), .int (nI lo), .int (nI (lo + n))] [] (HH H' J) ∧ HT I H' := by
  have h4 := hW.mn.2
  intro c
  induction c with
  | zero =>
    intro s p H hs ht
    obtain rfl : s = lo + n := by omega
    have e5 : H 5 3 = nI n := by rw [ht.1 5 (by decide)]; exact hW.mn.1
    refine ⟨H, ?_, ht⟩
    rw [s_Main_coat_80]
    simp only [s_Main_coat_82, s_Main_coat_84, s_Main_coat_85, s_Main_coat_88, s_Main_coat_91, s_Main_coat_92, g_0_1, g_5_3, e5, nI_add, if_pos (nI_le (Nat.le_refl (lo + n)) (show lo + n < 2 ^ 31 by omega)), foldG]
  | succ c ih =>
    intro s p H hs ht
    have e5 : H 5 3 = nI n := by rw [ht.1 5 (by decide)]; exact hW.mn.1
    have hw0 : Wf (takeI I 9 5) 9 n := cp_wf hW cp_take
    have hw1 : Wf (trI I m s) 9 n := wf_u3 hw0 (by omega)
    have hw2 := wf_days D hw1
    have ht2 : HT I (daysI (trI I m s) 9 n D) := ht_days h4.2 D _ (ht_12 ht_tk (by omega))
    have eg : foldG (ctS I n D m) s (c + 1) p = foldG (ctS I n D m) (s + 1) c (if lbF (trI I m s) n D ≤ p.1 then p else (lbF (trI I m s) n D, nI (10 * m + s))) := rfl
    have lb := lftb_in (F := F) (lv := lv + 2) (J := J) ar_9 hw2.mn
    have lb' : rn F (lv + 2 + 3) 20 [.ref 9] (HH (daysI (trI I m s) 9 n D) J) = some (some (.int (lbF (trI I m s) n D)), HH (daysI (trI I m s) 9 n D) J) := lb
    have ps := pass_in (F := F) (lv := lv) (J := J) hD ar_9 hw1
    unfold trI at ps
    rw [s_Main_coat_80, eg]
    simp only [s_Main_coat_82, s_Main_coat_84, s_Main_coat_85, s_Main_coat_88, s_Main_coat_91, s_Main_coat_92, g_0_1, g_0_2, g_5_3, e5, nI_add, if_neg (nI_ge (show s < lo + n by omega) (show lo + n < 2 ^ 31 by omega)), s_Main_coat_95, s_Main_coat_96, s_Main_coat_99, s_Main_coat_100, s_Main_coat_103 (ar_rcv ar_9), take_in ar_9 ar_5 (show 5 + 3 < 9 ∨ 9 + 3 < 5 by decide), ht_take ht, Option.bind_some, Option.toList_none, List.nil_append, s_Main_coat_106, s_Main_coat_107, s_Main_coat_110, s_Main_coat_113, s_Main_coat_115, s_Main_coat_117, g_9_2, pi_12, at_in (show m < 8 by omega) (show 8 < 2 ^ 31 by decide), nI_clamp (show m < 2 ^ 31 by omega), s_Main_coat_118, s_Main_coat_119, s_Main_coat_122, s_Main_coat_123 (ar_rcv ar_9), ps, s_Main_coat_126, s_Main_coat_127, s_Main_coat_130 (ar_rcv ar_9)]
    rw [show up2 (takeI I 9 5) 12 m (nI s) = trI I m s from rfl]
    simp only [lb', Option.bind_some, Option.toList_some, List.cons_append, List.nil_append, s_Main_coat_133, s_Main_coat_134]
    by_cases q : lbF (trI I m s) n D ≤ p.1
    · simp only [if_pos q, s_Main_coat_154, s_Main_coat_157, nI_1]
      exact ih (s + 1) p _ (by omega) ht2
    · simp only [if_neg q, s_Main_coat_137, s_Main_coat_138, g_0_2, s_Main_coat_141 (ar_rcv ar_9), lb', Option.bind_some, Option.toList_some, List.cons_append, List.nil_append, s_Main_coat_144, s_Main_coat_145, s_Main_coat_147, s_Main_coat_149, s_Main_coat_150, s_Main_coat_152, s_Main_coat_153, m10, nI_add, s_Main_coat_154, s_Main_coat_157, nI_1]
      exact ih (s + 1) (lbF (trI I m s) n D, nI (10 * m + s)) _ (by omega) ht2
theorem coat_l2 {D : Nat} (hW : Wf I 5 n) (hD : D < 2 ^ 31) : ∀ (c m : Nat) (p : Int32 × Int32) (H : Nat → Nat → Int32) (v5 v6 : Value), m + c = 2 * n → HT I H → ∃ H', ev F (lv + 6) jm_Main_coat 42 [.ref 0, .int (nI D), .int p.1, .int p.2, .int (nI m), v5, v6] [] (HH H J) = some (some (.int (foldG (fun m => foldG (ctS I n D m) (oth n m) n) m c p).2), HH H' J) ∧ HT I H' := by
  have h4 := hW.mn.2
  intro c
  induction c with
  | zero =>
    intro m p H v5 v6 hm ht
    obtain rfl : m = 2 * n := by omega
    have e5 : H 5 3 = nI n := by rw [ht.1 5 (by decide)]; exact hW.mn.1
    refine ⟨H, ?_, ht⟩
    rw [s_Main_coat_42]
    simp only [s_Main_coat_44, s_Main_coat_45, s_Main_coat_46, s_Main_coat_49, s_Main_coat_52, s_Main_coat_53, g_0_1, g_5_3, e5, show (2 : Int32) * nI n = nI (2 * n) from pk_mul 2 n, if_pos (nI_le (Nat.le_refl (2 * n)) (show 2 * n < 2 ^ 31 by omega)), s_Main_coat_166, s_Main_coat_167, foldG]
  | succ c ih =>
    intro m p H v5 v6 hm ht
    have hm' : m < 2 * n := by omega
    have e5 : H 5 3 = nI n := by rw [ht.1 5 (by decide)]; exact hW.mn.1
    have hM : Mn H 5 n := ⟨e5, h4⟩
    have ef : rn F (lv + 5) 5 [.ref 5, .int (1 - if n ≤ m then 1 else 0)] (HH H J) = some (some (.int (nI (oth n m))), HH H J) := by
      rw [first_eq ar_5, e5]
      unfold oth
      by_cases q : n ≤ m
      · simp only [if_pos q, show (1 : Int32) - 1 = 0 from rfl, if_true]; rfl
      · simp only [if_neg q, show ¬ (1 : Int32) - 0 = 0 by decide, if_false]
    have ho : oth n m + n ≤ 2 * n := by unfold oth; split <;> omega
    obtain ⟨H1, e1, t1⟩ := coat_l1 (F := F) (lv := lv) (J := J) hW hD hm' ho n (oth n m) p H (by omega) ht
    obtain ⟨H2, e2, t2⟩ := ih (m + 1) (foldG (ctS I n D m) (oth n m) n p) H1 (.int (nI (oth n m))) (.int (nI (oth n m + n))) (by omega) t1
    refine ⟨H2, ?_, t2⟩
    rw [s_Main_coat_42]
    simp only [s_Main_coat_44, s_Main_coat_45, s_Main_coat_46, s_Main_coat_49, s_Main_coat_52, s_Main_coat_53, g_0_1, g_5_3, e5, show (2 : Int32) * nI n = nI (2 * n) from pk_mul 2 n, if_neg (nI_ge hm' (show 2 * n < 2 ^ 31 by omega)), s_Main_coat_56, s_Main_coat_57, s_Main_coat_60, s_Main_coat_61, s_Main_coat_62, s_Main_coat_65, s_Main_coat_67 (ar_rcv ar_5), side_in ar_5 hM hm', Option.bind_some, Option.toList_some, List.cons_append, List.nil_append, s_Main_coat_70, s_Main_coat_71 (ar_rcv ar_5), ef, s_Main_coat_74, s_Main_coat_76, s_Main_coat_78]
    rw [e1]
    simp only [s_Main_coat_160, s_Main_coat_163, nI_1]
    exact e2
theorem mcoat_l1 {D d m : Nat} (hR : Rw I 5 I 0 n) (eY : Y 74 = I 74) (hd : I 5 4 = nI d) (hd' : d + D < 2 ^ 20) (hm : m < 2 * n) : ∀ (c s : Nat) (p : Int32 × Int32) (X : Nat → Nat → Int32) (v6 : Value), s + c = 2 * n → Ft Y X → ∃ X' v6', ev F (lv + 5) jm_Model_coat 42 [.ref 73, .int (nI D), .int p.1, .int p.2, .int (nI m), .int (nI s), v6] [] (HH X J) = ev F (lv + 5) jm_Model_coat 143 [.ref 73, .int (nI D), .int (foldG (ctM I n D m) s c p).1, .int (foldG (ctM I n D m) s c p).2, .int (nI m), .int (nI (2 * n)), v6'] [] (HH X' J) ∧ Ft Y X' := by
  have h4 := hR.ms
  have e8 : (8 : Int32) = nI 8 := rfl
  have e230 : (230 : Int32) = nI 230 := rfl
  have ed' : takeI I 9 5 9 4 = nI d := by rw [(cp_take (C := I) (a := 9) (b := 5)).2.1]; exact hd
  intro c
  induction c with
  | zero =>
    intro s p X v6 hs hx
    obtain rfl : s = 2 * n := by omega
    have hr := ft_rw hR eY hx
    refine ⟨X, v6, ?_, hx⟩
    rw [s_Model_coat_42]
    simp only [s_Model_coat_44, s_Model_coat_45 rcv_73, s_Model_coat_48, men_in hr.nn, Option.bind_some, Option.toList_some, List.cons_append, List.nil_append, if_pos (nI_le (Nat.le_refl (2 * n)) (show 2 * n < 2 ^ 31 by omega)), foldG]
  | succ c ih =>
    intro s p X v6 hs hx
    have hs' : s < 2 * n := by omega
    have hr := ft_rw hR eY hx
    have em : X 74 (8 + m) = I 8 m := by have := hr.md hm; rwa [Nat.zero_add] at this
    have eg : foldG (ctM I n D m) s (c + 1) p = foldG (ctM I n D m) (s + 1) c (ctM I n D m s p) := rfl
    rw [s_Model_coat_42, eg]
    unfold ctM
    simp only [s_Model_coat_44, s_Model_coat_45 rcv_73, s_Model_coat_48, men_in hr.nn, Option.bind_some, Option.toList_some, List.cons_append, List.nil_append, if_neg (nI_ge hs' (show 2 * n < 2 ^ 31 by omega)), s_Model_coat_51, s_Model_coat_52, s_Model_coat_54 rcv_73, mside_in hr.nn h4 hm, s_Model_coat_57, s_Model_coat_58, s_Model_coat_60 rcv_73, mside_in hr.nn h4 hs', s_Model_coat_63, sd_eq]
    by_cases q1 : (n ≤ m ↔ n ≤ s)
    · simp only [if_pos q1, s_Model_coat_137, s_Model_coat_140, nI_1]
      exact ih (s + 1) p X v6 (by omega) hx
    · simp only [if_neg q1, s_Model_coat_66, s_Model_coat_67, s_Model_coat_70, s_Model_coat_72, s_Model_coat_74, s_Model_coat_75, s_Model_coat_76, s_Model_coat_78, g_73_0, e8, nI_add, g74 (show 8 + m < 239 by omega), em]
      by_cases q2 : I 8 m = nI s
      · simp only [if_pos q2, s_Model_coat_137, s_Model_coat_140, nI_1]
        exact ih (s + 1) p X v6 (by omega) hx
      · have r1 := rw_u3 (lay_rw2 hR eY hx) (by omega) hm hs'
        obtain ⟨X', e, f⟩ := mlb_in (F := F) (lv := lv) (J := J) (D := D) r1 (by rw [up2_ne (by decide)]; exact ed') hd'
        have hx' : Ft Y X' := ft_fr (ft_u2 (ft_up hx) (by omega)) f
        rw [show up2 (takeI I 9 5) (9 + 3) m (nI s) = trI I m s from rfl] at e
        simp only [if_neg q2, s_Model_coat_81, s_Model_coat_82 rcv_73, lay_in, Option.bind_some, Option.toList_none, List.nil_append, s_Model_coat_85, s_Model_coat_86, s_Model_coat_89, s_Model_coat_92, s_Model_coat_94, s_Model_coat_95, s_Model_coat_97, g_73_0, e230, nI_add, p74 (show 230 + m < 239 by omega), s_Model_coat_98, s_Model_coat_99, s_Model_coat_100 rcv_73]
        rw [show 222 + 8 + m = 230 + m by omega] at e
        rw [e]
        simp only [Option.bind_some, Option.toList_some, List.cons_append, List.nil_append, s_Model_coat_103, s_Model_coat_105, s_Model_coat_107, s_Model_coat_108, ctS]
        by_cases q3 : lbF (trI I m s) n D ≤ p.1
        · simp only [if_pos q3, s_Model_coat_122, s_Model_coat_123, s_Model_coat_124, s_Model_coat_126, s_Model_coat_127, s_Model_coat_135, s_Model_coat_136, s_Model_coat_137, s_Model_coat_140, nI_1]
          exact ih (s + 1) p X' _ (by omega) hx'
        · simp only [if_neg q3, s_Model_coat_111, s_Model_coat_113, s_Model_coat_115, s_Model_coat_116, s_Model_coat_118, s_Model_coat_119, m10, nI_add, s_Model_coat_123, s_Model_coat_124, s_Model_coat_126, s_Model_coat_127, s_Model_coat_130, s_Model_coat_132, s_Model_coat_136, s_Model_coat_137, s_Model_coat_140, nI_1]
          exact ih (s + 1) (lbF (trI I m s) n D, nI (10 * m + s)) X' _ (by omega) hx'
theorem mcoat_l2 {D d : Nat} (hR : Rw I 5 I 0 n) (eY : Y 74 = I 74) (hd : I 5 4 = nI d) (hd' : d + D < 2 ^ 20) : ∀ (c m : Nat) (p : Int32 × Int32) (X : Nat → Nat → Int32) (v5 v6 : Value), m + c = 2 * n → Ft Y X → ∃ X', ev F (lv + 5) jm_Model_coat 30 [.ref 73, .int (nI D), .int p.1, .int p.2, .int (nI m), v5, v6] [] (HH X J) = some (some (.int (foldG (fun m => foldG (ctM I n D m) 0 (2 * n)) m c p).2), HH X' J) ∧ Ft Y X' := by
  have h4 := hR.ms
  intro c
  induction c with
  | zero =>
    intro m p X v5 v6 hm hx
    obtain rfl : m = 2 * n := by omega
    have hr := ft_rw hR eY hx
    refine ⟨X, ?_, hx⟩
    rw [s_Model_coat_30]
    simp only [s_Model_coat_32, s_Model_coat_33 rcv_73, s_Model_coat_36, men_in hr.nn, Option.bind_some, Option.toList_some, List.cons_append, List.nil_append, if_pos (nI_le (Nat.le_refl (2 * n)) (show 2 * n < 2 ^ 31 by omega)), s_Model_coat_149, s_Model_coat_150, foldG]
  | succ c ih =>
    intro m p X v5 v6 hm hx
    have hm' : m < 2 * n := by omega
    have hr := ft_rw hR eY hx
    obtain ⟨X1, w6, e1, x1⟩ := mcoat_l1 (F := F) (lv := lv) (J := J) hR eY hd hd' hm' (2 * n) 0 p X v6 (by omega) hx
    obtain ⟨X2, e2, x2⟩ := ih (m + 1) (foldG (ctM I n D m) 0 (2 * n) p) X1 (.int (nI (2 * n))) w6 (by omega) x1
    refine ⟨X2, ?_, x2⟩
    rw [show nI 0 = (0 : Int32) from rfl] at e1
    rw [s_Model_coat_30]
    simp only [s_Model_coat_32, s_Model_coat_33 rcv_73, s_Model_coat_36, men_in hr.nn, Option.bind_some, Option.toList_some, List.cons_append, List.nil_append, if_neg (nI_ge hm' (show 2 * n < 2 ^ 31 by omega)), s_Model_coat_39, s_Model_coat_40]
    rw [e1]
    simp only [s_Model_coat_143, s_Model_coat_146, nI_1]
    exact e2
/-- both searches find the same -/
theorem coat_eq {D : Nat} (h4 : 1 ≤ n ∧ n ≤ 4) (hW : Wf I 5 n) : foldG (fun m => foldG (ctM I n D m) 0 (2 * n)) 0 (2 * n) (lbF (takeI I 9 5) n D, -1) = foldG (fun m => foldG (ctS I n D m) (oth n m) n) 0 (2 * n) (lbF (takeI I 9 5) n D, -1) := by
  refine (foldG_cg (fun p : Int32 × Int32 => lbF (takeI I 9 5) n D ≤ p.1) (2 * n) 0 _ (Int32.le_refl _) ?_).1
  intro m _ hm p hp
  have key : ∀ lo, (∀ s, lo ≤ s → s < lo + n → ¬ (n ≤ m ↔ n ≤ s)) → lo + n ≤ 2 * n → ∀ p : Int32 × Int32, lbF (takeI I 9 5) n D ≤ p.1 → foldG (ctM I n D m) lo n p = foldG (ctS I n D m) lo n p ∧ lbF (takeI I 9 5) n D ≤ (foldG (ctM I n D m) lo n p).1 := by
    intro lo hlo hlo' p hp
    refine foldG_cg (fun p : Int32 × Int32 => lbF (takeI I 9 5) n D ≤ p.1) n lo p hp ?_
    intro s hs1 hs2 p hp
    have inc : lbF (takeI I 9 5) n D ≤ (ctS I n D m s p).1 := by
      unfold ctS
      by_cases q : lbF (trI I m s) n D ≤ p.1
      · rw [if_pos q]; exact hp
      · rw [if_neg q]; exact Int32.le_trans hp (Int32.le_of_lt (Int32.not_le.1 q))
    have e : ctM I n D m s p = ctS I n D m s p := by
      unfold ctM
      rw [if_neg (hlo s hs1 hs2)]
      by_cases q : I 8 m = nI s
      · rw [if_pos q]
        have e8 : takeI I 9 5 12 m = I 8 m := (cp_take (C := I) (a := 9) (b := 5)).2.2.2.2 m (by omega)
        have et : trI I m s = takeI I 9 5 := by
          unfold trI
          funext x
          by_cases hx : x = 12
          · subst hx
            rw [up2_eq]
            funext y
            by_cases hy : y = m
            · subst hy; rw [pk_us, e8, q]
            · rw [pk_un hy]
          · rw [up2_ne hx]
        unfold ctS
        rw [et, if_pos hp]
      · rw [if_neg q]
    exact ⟨e, by rw [e]; exact inc⟩
  show foldG (ctM I n D m) 0 (2 * n) p = foldG (ctS I n D m) (oth n m) n p ∧ lbF (takeI I 9 5) n D ≤ (foldG (ctM I n D m) 0 (2 * n) p).1
  rw [show 2 * n = n + n by omega, foldG_add, Nat.zero_add]
  unfold oth
  by_cases q : n ≤ m
  · have id2 : ∀ p, foldG (ctM I n D m) n n p = p := fun p => foldG_id n n p (fun s h1 h2 a => by unfold ctM; rw [if_pos (by omega)])
    rw [id2, if_pos q]
    exact key 0 (fun s h1 h2 => by omega) (by omega) p hp
  · have id1 : foldG (ctM I n D m) 0 n p = p := foldG_id n 0 p (fun s h1 h2 a => by unfold ctM; rw [if_pos (by omega)])
    rw [id1, if_neg q]
    exact key n (fun s h1 h2 => by omega) (by omega) p hp
theorem plan_no {h : jx_H} {x : Int32} (q : x < 1 ∨ (20 : Int32) < x) : rn F lv 96 [.int x] h = some (some (.int 0), h) := by
  by_cases w : x < 1
  · simp only [e_Main_isPlanned, s_Main_isPlanned_0, s_Main_isPlanned_1, s_Main_isPlanned_2, s_Main_isPlanned_5, s_Main_isPlanned_6, s_Main_isPlanned_8, s_Main_isPlanned_11, s_Main_isPlanned_12, s_Main_isPlanned_15, rz_Main_isPlanned_16, ro_Main_isPlanned_16, if_pos w]
  · rcases q with q | q
    · exact absurd q w
    · simp only [e_Main_isPlanned, s_Main_isPlanned_0, s_Main_isPlanned_1, s_Main_isPlanned_2, s_Main_isPlanned_5, s_Main_isPlanned_6, s_Main_isPlanned_8, s_Main_isPlanned_11, s_Main_isPlanned_12, s_Main_isPlanned_15, rz_Main_isPlanned_16, ro_Main_isPlanned_16, if_neg w, if_pos q]
theorem plan_yes {h : jx_H} {x : Int32} (q1 : ¬ x < 1) (q2 : ¬ (20 : Int32) < x) : rn F lv 96 [.int x] h = some (some (.int 1), h) := by
  simp only [e_Main_isPlanned, s_Main_isPlanned_0, s_Main_isPlanned_1, s_Main_isPlanned_2, s_Main_isPlanned_5, s_Main_isPlanned_6, s_Main_isPlanned_8, s_Main_isPlanned_11, s_Main_isPlanned_12, s_Main_isPlanned_15, rz_Main_isPlanned_16, ro_Main_isPlanned_16, if_neg q1, if_neg q2]
theorem plan_cases (x : Int32) : (x < 1 ∨ (20 : Int32) < x) ∨ (¬ x < 1 ∧ ¬ (20 : Int32) < x ∧ ∃ D, D ≤ 20 ∧ x = nI D) := by
  by_cases w : x < 1
  · exact Or.inl (Or.inl w)
  · by_cases w2 : (20 : Int32) < x
    · exact Or.inl (Or.inr w2)
    · have q0 : ¬ x < 0 := fun v => w (by rw [Int32.lt_iff_toInt_lt] at v ⊢; exact Int.lt_trans v (by decide))
      exact Or.inr ⟨w, w2, nI_of2 (M := 20) rfl q0 (Int32.not_lt.1 w2)⟩
theorem in_plan {h : jx_H} {x : Int32} (q : x < 1 ∨ (20 : Int32) < x) : rn F lv 103 [.long x.toInt64, .long 1, .long 20] h = some (some (.int 0), h) := by
  have e : (if x < 1 then (0 : Int32) else if 20 < x then 0 else 1) = 0 := by
    by_cases w : x < 1
    · rw [if_pos w]
    · rcases q with q | q
      · exact absurd q w
      · rw [if_neg w, if_pos q]
  have := in_int (F := F) (lv := lv) (h := h) (x := x) (lo := 1) (hi := 20)
  rw [e] at this
  exact this
theorem in_plan1 {h : jx_H} {x : Int32} (q1 : ¬ x < 1) (q2 : ¬ (20 : Int32) < x) : rn F lv 103 [.long x.toInt64, .long 1, .long 20] h = some (some (.int 1), h) := by
  have := in_int (F := F) (lv := lv) (h := h) (x := x) (lo := 1) (hi := 20)
  rw [if_neg q1, if_neg q2] at this
  exact this
theorem st_coat (h : Inv I J) (x : Int32) : Alk F lv 79 151 [.int x] I J := by
  obtain ⟨n, ⟨hR, d, hd, ed⟩, _, _⟩ := h.2.2.2.2.2
  have h4 := hR.ms
  have hM := hR.wf.mn
  rcases plan_cases x with q | ⟨q1, q2, D, hD, rfl⟩
  · refine ⟨-3, I, I, J, ?_, ?_, h⟩
    · simp only [e_Main_coat, s_Main_coat_0, s_Main_coat_1, s_Main_coat_4, s_Main_coat_7, s_Main_coat_9, plan_no q, Option.bind_some, Option.toList_some, Option.toList_none, List.cons_append, List.nil_append, i10, i01, if_false, if_true, nI_add, nI_1]
    · simp only [e_Model_coat, s_Model_coat_0, s_Model_coat_1, s_Model_coat_2, s_Model_coat_3, s_Model_coat_6, s_Model_coat_9, s_Model_coat_12, s_Model_coat_14, in_plan q, Option.bind_some, Option.toList_some, Option.toList_none, List.cons_append, List.nil_append, i10, i01, if_false, if_true, nI_add, nI_1]
  have hw0 : Wf (takeI I 9 5) 9 n := cp_wf hR.wf cp_take
  have ps := pass_in (F := F) (lv := lv + 4) (J := J) (show D < 2 ^ 31 by omega) ar_9 hw0
  have lb : rn F (lv + 9) 20 [.ref 9] (HH (daysI (takeI I 9 5) 9 n D) J) = some (some (.int (lbF (takeI I 9 5) n D)), HH (daysI (takeI I 9 5) 9 n D) J) := lftb_in (lv := lv + 6) ar_9 (wf_days D hw0).mn
  obtain ⟨H1, e1, t1⟩ := coat_l2 (F := F) (lv := lv + 4) (J := J) hR.wf (show D < 2 ^ 31 by omega) (2 * n) 0 (lbF (takeI I 9 5) n D, -1) _ jx_junk jx_junk (by omega) (ht_days h4.2 D _ ht_tk)
  have hc : ∀ x, x < 9 ∨ 12 < x → H1 x = I x := t1.1
  have ed' : takeI I 9 5 9 4 = nI d := by rw [(cp_take (C := I) (a := 9) (b := 5)).2.1]; exact ed
  obtain ⟨X0, e0, f0⟩ := mlb_in (F := F) (lv := lv + 5) (J := J) (D := D) (lay_rw2 hR (hc 74 (by decide)) (ft_refl (X := H1))) ed' (by omega)
  obtain ⟨X1, e2, x1⟩ := mcoat_l2 (F := F) (lv := lv + 5) (J := J) (Y := H1) hR (hc 74 (by decide)) ed (show d + D < 2 ^ 20 by omega) (2 * n) 0 (lbF (takeI I 9 5) n D, -1) X0 jx_junk jx_junk (by omega) (ft_fr (ft_up ft_refl) f0)
  rw [coat_eq h4 hR.wf] at e2
  refine ⟨(foldG (fun m => foldG (ctS I n D m) (oth n m) n) 0 (2 * n) (lbF (takeI I 9 5) n D, -1)).2, H1, X1, J, ?_, ?_, inv_kp h (kp_ft hc x1)⟩
  · simp only [e_Main_coat, s_Main_coat_0, s_Main_coat_1, s_Main_coat_4, plan_yes q1 q2, Option.bind_some, Option.toList_some, Option.toList_none, List.cons_append, List.nil_append, i10, i01, if_false, if_true, nI_add, nI_1, s_Main_coat_10, s_Main_coat_11, s_Main_coat_14, s_Main_coat_15, s_Main_coat_18 (ar_rcv ar_9), g_0_1, g_0_2, take_in ar_9 ar_5 (show 5 + 3 < 9 ∨ 9 + 3 < 5 by decide), s_Main_coat_21, s_Main_coat_22, s_Main_coat_25, s_Main_coat_26 (ar_rcv ar_9), ps, s_Main_coat_29, s_Main_coat_30, s_Main_coat_33 (ar_rcv ar_9), lb, s_Main_coat_36, s_Main_coat_37, s_Main_coat_38, s_Main_coat_39, s_Main_coat_40]
    exact e1
  · simp only [e_Model_coat, s_Model_coat_0, s_Model_coat_1, s_Model_coat_2, s_Model_coat_3, s_Model_coat_6, s_Model_coat_9, in_plan1 q1 q2, Option.bind_some, Option.toList_some, Option.toList_none, List.cons_append, List.nil_append, i10, i01, if_false, if_true, nI_add, nI_1, s_Model_coat_15, s_Model_coat_16 rcv_73, lay_in, s_Model_coat_19, s_Model_coat_20, s_Model_coat_21 rcv_73, e0, s_Model_coat_24, s_Model_coat_25, s_Model_coat_26, s_Model_coat_27, s_Model_coat_28]
    exact e2
end Cal
