/-! ===== pairs ===== -/
def Ft2 (Y X : Nat → Nat → Int32) : Prop := (∀ x, x ≠ 74 → x < 92 → X x = Y x) ∧ ∀ y, y < 222 → X 74 y = Y 74 y
/-- the best order so far -/
def BO (X : Nat → Nat → Int32) (n fm : Nat) (a : Int32 × Nat) : Prop := a.1 = -1 ∨ ∃ L, okL n L = true ∧ a.2 = cdN (glN L) n ∧ ∀ j, j < n → X 94 j = nI (fm + glN L j)
section Cal
variable {F : jx_F} {lv : Nat} {I C X Y : Nat → Nat → Int32} {J : Nat → Nat → Int64} {n : Nat}
theorem kp_ft2 (hc : ∀ x, x < 9 ∨ 12 < x → Y x = I x) (f : Ft2 Y X) : Kp I X := by
  have e : ∀ x, x ≠ 74 → x < 92 → (x < 9 ∨ 12 < x) → X x = I x := fun x h1 h2 h3 => by rw [f.1 x h1 h2, hc x h3]
  refine ⟨fun x h1 h2 h3 h4 h5 h6 => e x h3 h6 (by omega), ?_, ?_, ?_, ?_, ?_⟩
  · rw [e 13 (by decide) (by decide) (by decide)]
  · rw [e 73 (by decide) (by decide) (by decide)]
  · rw [e 73 (by decide) (by decide) (by decide)]
  · rw [e 73 (by decide) (by decide) (by decide)]
  · intro y hy; rw [f.2 y hy, hc 74 (by decide)]
theorem lay_rw3 (h : Rw I 5 I 0 n) (f : ∀ y, y < 222 → X 74 y = I 74 y) : Rw (takeI I 9 5) 9 (upF X 74 222 (fun j => X 74 (0 + j)) 17) 222 n := by
  refine rw_cp h cp_take (Nat.le_refl _) ?_ ?_
  · intro y h1 h2; rw [upF_out (by omega), f y (by omega)]
  · intro k hk; rw [upF_in hk, f _ (by omega)]
theorem rw_plan {fi : Nat} {g g' : Nat → Int32} (h : Rw C 9 X 222 n) (hfi : fi + n ≤ 2 * n) (hg : ∀ i, i < n → g' i = g i) (hw : Wf (upF C 12 fi g n) 9 n) : Rw (upF C 12 fi g n) 9 (upF X 74 (230 + fi) g' n) 222 n := by
  have h4 := h.ms
  refine ⟨hw, by decide, ?_, ?_, ?_, ?_, ?_⟩
  · rw [upF_out (by omega)]; exact h.nn
  · intro i hi; rw [upF_out (by omega), upF_ne (by decide)]; exact h.k hi
  · intro i hi; rw [upF_out (by omega), upF_ne (by decide)]; exact h.bt hi
  · intro i hi
    show _ = upF C 12 fi g n 12 i
    by_cases w : fi ≤ i ∧ i < fi + n
    · obtain ⟨m, rfl⟩ : ∃ m, i = fi + m := ⟨i - fi, by omega⟩
      rw [show 222 + 8 + (fi + m) = 230 + fi + m by omega, upF_in (by omega), upF_in (by omega)]
      exact hg m (by omega)
    · rw [upF_out (by omega), upF_out (by omega)]; exact h.md hi
  · rw [upF_out (by omega), upF_ne (by decide)]; exact h.dy
theorem mp_init {s D k : Int32} {fi fm : Nat} (h4 : n ≤ 4) (hs : sd n s fi fm) : ∀ (c q : Nat), q + c = 4 → ev F lv jm_Model_pairs 56 [.ref 73, .int s, .int D, .int k, .int (nI n), .int (nI q), jx_junk, jx_junk, jx_junk] [] (HH (upTo X 93 (fun j => nI (fm + j)) q) J) = ev F lv jm_Model_pairs 88 [.ref 73, .int s, .int D, .int k, .int (nI n), .int (nI 4), jx_junk, jx_junk, jx_junk] [] (HH (upTo X 93 (fun j => nI (fm + j)) 4) J) := by
  have e4 : (4 : Int32) = nI 4 := rfl
  intro c
  induction c with
  | zero =>
    intro q hq
    obtain rfl : q = 4 := by omega
    rw [s_Model_pairs_56]
    simp only [s_Model_pairs_58, s_Model_pairs_59, e4, if_pos (nI_le (Nat.le_refl 4) (show 4 < 2 ^ 31 by decide))]
  | succ c ih =>
    intro q hq
    rw [s_Model_pairs_56]
    simp only [s_Model_pairs_58, s_Model_pairs_59, e4, if_neg (nI_ge (show q < 4 by omega) (show 4 < 2 ^ 31 by decide)), s_Model_pairs_62, s_Model_pairs_63, s_Model_pairs_66, s_Model_pairs_68, s_Model_pairs_70, s_Model_pairs_71, g_73_27]
    rcases hs with ⟨rfl, rfl, rfl⟩ | ⟨rfl, rfl, rfl⟩
    · simp only [if_true, s_Model_pairs_74, s_Model_pairs_76, s_Model_pairs_80, s_Model_pairs_81, nI_add, p93 (show q < 4 by omega), s_Model_pairs_82, s_Model_pairs_85, nI_1]
      rw [upTo_s (by rw [Nat.add_comm])]
      exact ih (q + 1) (by omega)
    · simp only [if_neg (show ¬ (1 : Int32) = 0 by decide), s_Model_pairs_79, s_Model_pairs_80, s_Model_pairs_81, Int32.add_zero, p93 (show q < 4 by omega), s_Model_pairs_82, s_Model_pairs_85, nI_1]
      rw [upTo_s (by rw [Nat.zero_add])]
      exact ih (q + 1) (by omega)
theorem mp_row {s D k a1 : Int32} {fi : Nat} {v8 : Value} (h4 : n ≤ 4) (hfi : fi + n ≤ 2 * n) (es : (230 : Int32) + s * nI n = nI (230 + fi)) : ∀ (c q : Nat), q + c = n → ev F lv jm_Model_pairs 106 [.ref 73, .int s, .int D, .int k, .int (nI n), .int a1, .int 1, .int (nI q), v8] [] (HH (upF X 74 (230 + fi) (fun j => X 93 j) q) J) = ev F lv jm_Model_pairs 142 [.ref 73, .int s, .int D, .int k, .int (nI n), .int a1, .int 1, .int (nI n), v8] [] (HH (upF X 74 (230 + fi) (fun j => X 93 j) n) J) := by
  intro c
  induction c with
  | zero =>
    intro q hq
    obtain rfl : q = n := by omega
    rw [s_Model_pairs_106]
    simp only [s_Model_pairs_108, s_Model_pairs_110, if_pos (nI_le (Nat.le_refl q) (show q < 2 ^ 31 by omega))]
  | succ c ih =>
    intro q hq
    have e93 : upF X 74 (230 + fi) (fun j => X 93 j) q 93 q = X 93 q := by rw [upF_ne (by decide)]
    rw [s_Model_pairs_106]
    simp only [s_Model_pairs_108, s_Model_pairs_110, if_neg (nI_ge (show q < n by omega) (show n < 2 ^ 31 by omega)), s_Model_pairs_113, s_Model_pairs_114, s_Model_pairs_117, s_Model_pairs_120, s_Model_pairs_121, s_Model_pairs_123, s_Model_pairs_124, es, s_Model_pairs_125, s_Model_pairs_127, nI_add, s_Model_pairs_128, s_Model_pairs_129, s_Model_pairs_132, s_Model_pairs_134, s_Model_pairs_135, g_73_0, g_73_27, g93 (show q < 4 by omega), e93, p74 (show 230 + fi + q < 239 by omega), s_Model_pairs_136, s_Model_pairs_139, nI_1]
    rw [upF_s rfl]
    exact ih (q + 1) (by omega)
theorem mp_best {s D k a1 x7 : Int32} : ∀ (c j : Nat), j + c = 4 → ∃ w8, ev F lv jm_Model_pairs 163 [.ref 73, .int s, .int D, .int k, .int (nI n), .int a1, .int 1, .int x7, .int (nI j)] [] (HH (upTo X 94 (fun j => X 93 j) j) J) = ev F lv jm_Model_pairs 189 [.ref 73, .int s, .int D, .int k, .int (nI n), .int a1, .int 1, .int x7, w8] [] (HH (upTo X 94 (fun j => X 93 j) 4) J) := by
  have e4 : (4 : Int32) = nI 4 := rfl
  intro c
  induction c with
  | zero =>
    intro j hj
    obtain rfl : j = 4 := by omega
    refine ⟨.int (nI 4), ?_⟩
    rw [s_Model_pairs_163]
    simp only [s_Model_pairs_165, s_Model_pairs_166, e4, if_pos (nI_le (Nat.le_refl 4) (show 4 < 2 ^ 31 by decide))]
  | succ c ih =>
    intro j hj
    have e93 : upTo X 94 (fun j => X 93 j) j 93 j = X 93 j := by rw [upTo_ne (by decide)]
    rw [s_Model_pairs_163]
    simp only [s_Model_pairs_165, s_Model_pairs_166, e4, if_neg (nI_ge (show j < 4 by omega) (show 4 < 2 ^ 31 by decide)), s_Model_pairs_169, s_Model_pairs_170, s_Model_pairs_173, s_Model_pairs_175, s_Model_pairs_176, s_Model_pairs_179, s_Model_pairs_181, s_Model_pairs_182, g_73_27, g_73_28, g93 (show j < 4 by omega), e93, p94 (show j < 4 by omega), s_Model_pairs_183, s_Model_pairs_186, nI_1]
    rw [upTo_s rfl]
    exact ih (j + 1) (by omega)
theorem mp_loop {s k : Int32} {D d fi fm : Nat} (hR : Rw I 5 I 0 n) (eY : Y 74 = I 74) (hs : sd n s fi fm) (hd : I 5 4 = nI d) (hd' : d + D < 2 ^ 20) : ∀ (f : Nat) (L : List Nat) (Ls : List (List Nat)) (a : Int32 × Nat) (X : Nat → Nat → Int32) (v7 v8 : Value), seqO n f L = some Ls → (∀ L, L ∈ Ls → okL n L = true) → Ft2 Y X → OR X fm (glN L) → BO X n fm a → ∃ X' w7 w8, ev F (lv + 5) jm_Model_pairs 94 [.ref 73, .int s, .int (nI D), .int k, .int (nI n), .int a.1, .int 1, v7, v8] [] (HH X J) = ev F (lv + 5) jm_Model_pairs 198 [.ref 73, .int s, .int (nI D), .int k, .int (nI n), .int (Ls.foldl (fun a L => psS I n D fi fm (cdN (glN L) n) a) a).1, .int 0, w7, w8] [] (HH X' J) ∧ Ft2 Y X' ∧ BO X' n fm (Ls.foldl (fun a L => psS I n D fi fm (cdN (glN L) n) a) a) := by
  have h4 := hR.ms
  have hfi : fi + n ≤ 2 * n := by rcases hs with ⟨_, rfl, _⟩ | ⟨_, rfl, _⟩ <;> omega
  have hfm : fm ≤ 4 ∧ fm + n ≤ 2 * n := by rcases hs with ⟨_, _, rfl⟩ | ⟨_, _, rfl⟩ <;> omega
  have es : (230 : Int32) + s * nI n = nI (230 + fi) := by
    rcases hs with ⟨rfl, rfl, _⟩ | ⟨rfl, rfl, _⟩
    · rw [Int32.zero_mul, Int32.add_zero]; rfl
    · rw [Int32.one_mul, show (230 : Int32) = nI 230 from rfl, nI_add]
  have ed' : takeI I 9 5 9 4 = nI d := by rw [(cp_take (C := I) (a := 9) (b := 5)).2.1]; exact hd
  intro f
  induction f with
  | zero => intro L Ls a X v7 v8 h; exact absurd h (by unfold seqO; simp)
  | succ f ih =>
    intro L Ls a X v7 v8 hL hok hx ho hb
    have hmem : L ∈ Ls ∧ ((nxL n L = none ∧ Ls = [L]) ∨ ∃ L' Ls', nxL n L = some L' ∧ seqO n f L' = some Ls' ∧ Ls = L :: Ls') := by
      unfold seqO at hL
      split at hL
      · rename_i e
        obtain rfl := Option.some.inj hL
        exact ⟨List.mem_cons_self, Or.inl ⟨e, rfl⟩⟩
      · rename_i L' e
        cases hq : seqO n f L' with
        | none => rw [hq] at hL; exact absurd hL (by simp)
        | some Ls' =>
          rw [hq] at hL
          obtain rfl := Option.some.inj hL
          exact ⟨List.mem_cons_self, Or.inr ⟨L', Ls', e, hq, rfl⟩⟩
    obtain ⟨ok1, ok2, ok3, ok4⟩ := okL_use (hok L hmem.1)
    have x74 : ∀ y, y < 222 → X 74 y = I 74 y := fun y hy => by rw [hx.2 y hy, eY]
    have r1 := lay_rw3 hR x74
    -- the trial
    have n93 : upF X 74 222 (fun j => X 74 (0 + j)) 17 93 = X 93 := upF_ne (by decide)
    have hw : Wf (tpI I n fi fm (cdN (glN L) n)) 9 n := by
      unfold tpI
      refine wf_upF (a := 9) (cp_wf hR.wf cp_take) (fun i hi => ⟨fm + glN L i, ?_, ?_⟩)
      · have := ok2 i hi; omega
      · rw [ok4 i hi, nI_add]
    have r2 : Rw (tpI I n fi fm (cdN (glN L) n)) 9 (upF (upF X 74 222 (fun j => X 74 (0 + j)) 17) 74 (230 + fi) (fun j => upF X 74 222 (fun j => X 74 (0 + j)) 17 93 j) n) 222 n := by
      refine rw_plan r1 hfi (fun i hi => ?_) hw
      show upF X 74 222 (fun j => X 74 (0 + j)) 17 93 i = nI fm + plc n (nI (cdN (glN L) n)) i
      rw [n93, ok4 i hi, nI_add]
      exact (ho i (by omega)).1
    obtain ⟨X3, e3, f3⟩ := mlb_in (F := F) (lv := lv) (J := J) (D := D) r2 (by unfold tpI; rw [upF_ne (by decide)]; exact ed') hd'
    have l0 := mp_row (F := F) (lv := lv + 5) (X := upF X 74 222 (fun j => X 74 (0 + j)) 17) (J := J) (s := s) (D := nI D) (k := k) (a1 := a.1) (v8 := v8) h4.2 hfi es n 0 (by omega)
    rw [upF_0] at l0
    have run1 : ev F (lv + 5) jm_Model_pairs 94 [.ref 73, .int s, .int (nI D), .int k, .int (nI n), .int a.1, .int 1, v7, v8] [] (HH X J) = ev F (lv + 5) jm_Model_pairs 149 [.ref 73, .int s, .int (nI D), .int k, .int (nI n), .int a.1, .int 1, .int (lbF (tpI I n fi fm (cdN (glN L) n)) n D), v8] [] (HH X3 J) := by
      rw [s_Model_pairs_94]
      simp only [s_Model_pairs_96, if_neg (show ¬ (1 : Int32) = 0 by decide), s_Model_pairs_99, s_Model_pairs_100 rcv_73, lay_in, Option.bind_some, Option.toList_none, List.nil_append, s_Model_pairs_103, s_Model_pairs_104]
      refine Eq.trans l0 ?_
      simp only [s_Model_pairs_142, s_Model_pairs_143, s_Model_pairs_144 rcv_73, e3, Option.bind_some, Option.toList_some, List.cons_append, List.nil_append, s_Model_pairs_147]
    have x3 : ∀ x, x ≠ 74 → x ≠ 92 → X3 x = X x := fun x h1 h2 => by rw [f3.1 x h1 h2, upF_ne h1, upF_ne h1]
    have x374 : ∀ y, y < 222 → X3 74 y = X 74 y := fun y hy => by rw [f3.2 y (by omega) (by omega), upF_out (by omega), upF_out (by omega)]
    -- the best so far
    obtain ⟨X4, w8, e4, h93, h74, hft, hb4⟩ : ∃ X4 w8, ev F (lv + 5) jm_Model_pairs 149 [.ref 73, .int s, .int (nI D), .int k, .int (nI n), .int a.1, .int 1, .int (lbF (tpI I n fi fm (cdN (glN L) n)) n D), v8] [] (HH X3 J) = ev F (lv + 5) jm_Model_pairs 189 [.ref 73, .int s, .int (nI D), .int k, .int (nI n), .int (psS I n D fi fm (cdN (glN L) n) a).1, .int 1, .int (lbF (tpI I n fi fm (cdN (glN L) n)) n D), w8] [] (HH X4 J) ∧ X4 93 = X 93 ∧ X4 74 = X3 74 ∧ (∀ x, x < 92 → X4 x = X3 x) ∧ BO X4 n fm (psS I n D fi fm (cdN (glN L) n) a) := by
      unfold psS
      by_cases q : lbF (tpI I n fi fm (cdN (glN L) n)) n D ≤ a.1
      · refine ⟨X3, v8, ?_, x3 93 (by decide) (by decide), rfl, fun _ _ => rfl, ?_⟩
        · simp only [s_Model_pairs_149, s_Model_pairs_151, s_Model_pairs_153, if_pos q]
        · rw [if_pos q]
          rcases hb with hb | ⟨L0, b1, b2, b3⟩
          · exact Or.inl hb
          · exact Or.inr ⟨L0, b1, b2, fun j hj => by rw [x3 94 (by decide) (by decide)]; exact b3 j hj⟩
      · obtain ⟨w8, l4⟩ := mp_best (F := F) (lv := lv + 5) (X := X3) (J := J) (n := n) (s := s) (D := nI D) (k := k) (a1 := lbF (tpI I n fi fm (cdN (glN L) n)) n D) (x7 := lbF (tpI I n fi fm (cdN (glN L) n)) n D) 4 0 (by omega)
        rw [upTo_0] at l4
        refine ⟨upTo X3 94 (fun j => X3 93 j) 4, w8, ?_, ?_, upTo_ne (by decide), fun x hx => upTo_ne (by omega), ?_⟩
        · simp only [s_Model_pairs_149, s_Model_pairs_151, s_Model_pairs_153, if_neg q, s_Model_pairs_156, s_Model_pairs_158, s_Model_pairs_160, s_Model_pairs_161]
          exact l4
        · rw [upTo_ne (by decide)]; exact x3 93 (by decide) (by decide)
        · rw [if_neg q]
          refine Or.inr ⟨L, hok L hmem.1, rfl, fun j hj => ?_⟩
          rw [upTo_lt (by omega), x3 93 (by decide) (by decide)]
          exact (ho j (by omega)).1
    have x4 : Ft2 Y X4 := ⟨fun x h1 h2 => by rw [hft x h2, x3 x h1 (by omega)]; exact hx.1 x h1 h2, fun y hy => by rw [h74, x374 y hy]; exact hx.2 y hy⟩
    have o4 : OR X4 fm (glN L) := fun j hj => by rw [h93]; exact ho j hj
    have e17 : X4 74 17 = nI n := by rw [h74, x374 17 (by decide), x74 17 (by decide)]; exact hR.nn
    rcases nxo_in (F := F) (lv := lv + 3) (J := J) hfm.1 e17 h4 o4 with ⟨n1, n2⟩ | ⟨o', X5, n1, n2, n3, n4⟩
    · have hnone : nxL n L = none := by unfold nxL; rw [n1]; rfl
      rcases hmem.2 with ⟨_, rfl⟩ | ⟨L', Ls', g1, _, _⟩
      · refine ⟨X4, .int (lbF (tpI I n fi fm (cdN (glN L) n)) n D), w8, ?_, x4, hb4⟩
        rw [run1, e4]
        simp only [s_Model_pairs_189, s_Model_pairs_190 rcv_73, n2, Option.bind_some, Option.toList_some, List.cons_append, List.nil_append, s_Model_pairs_193, s_Model_pairs_195, List.foldl_cons, List.foldl_nil]
        rw [s_Model_pairs_94]
        simp only [s_Model_pairs_96, if_true]
      · rw [hnone] at g1; exact absurd g1 (by simp)
    · have hsome : nxL n L = some [o' 0, o' 1, o' 2, o' 3] := by unfold nxL; rw [n1]; rfl
      rcases hmem.2 with ⟨g1, _⟩ | ⟨L', Ls', g1, g2, rfl⟩
      · rw [hsome] at g1; exact absurd g1 (by simp)
      · rw [hsome] at g1
        obtain rfl := Option.some.inj g1
        have o5 : OR X5 fm (glN [o' 0, o' 1, o' 2, o' 3]) := by
          intro j hj
          have := n3 j hj
          match j, hj with
          | 0, _ => exact this
          | 1, _ => exact this
          | 2, _ => exact this
          | 3, _ => exact this
        have b5 : BO X5 n fm (psS I n D fi fm (cdN (glN L) n) a) := by
          rcases hb4 with hb4 | ⟨L0, b1, b2, b3⟩
          · exact Or.inl hb4
          · exact Or.inr ⟨L0, b1, b2, fun j hj => by rw [n4 94 (by decide)]; exact b3 j hj⟩
        obtain ⟨X6, w7', w8', e6, x6, b6⟩ := ih _ Ls' (psS I n D fi fm (cdN (glN L) n) a) X5 (.int (lbF (tpI I n fi fm (cdN (glN L) n)) n D)) w8 g2 (fun L hL => hok L (List.mem_cons_of_mem _ hL)) ⟨fun x h1 h2 => by rw [n4 x (by omega)]; exact x4.1 x h1 h2, fun y hy => by rw [n4 74 (by decide)]; exact x4.2 y hy⟩ o5 b5
        refine ⟨X6, w7', w8', ?_, x6, b6⟩
        rw [run1, e4]
        simp only [s_Model_pairs_189, s_Model_pairs_190 rcv_73, n2, Option.bind_some, Option.toList_some, List.cons_append, List.nil_append, s_Model_pairs_193, s_Model_pairs_195, List.foldl_cons]
        exact e6
end Cal
