/-! ===== plans and orders ===== -/
/-- is a plan one that there can be -/
def vld (n : Nat) (p : Int32) : Nat → Nat → Int32 → Int32
  | 0, _, _ => 1
  | c + 1, k, u => if nI n ≤ plc n p k then 0 else if (u >>> (plc n p k &&& 31)) &&& 1 = 0 then vld n p c (k + 1) (u ||| (1 <<< (plc n p k &&& 31))) else 0
theorem upF_front {I : Nat → Nat → Int32} {c b : Nat} {g g' : Nat → Int32} {v : Int32} {k : Nat} (hv : v = g 0) (hg : ∀ i, g' i = g (i + 1)) : upF (up2 I c b v) c (b + 1) g' k = upF I c b g (k + 1) := by
  funext x
  by_cases hx : x = c
  · subst hx
    funext y
    by_cases h0 : y = b
    · subst h0
      rw [upF_out (by omega), up2_eq, pk_us]
      exact hv.trans (upF_in (I := I) (c := x) (b := y) (g := g) (k := k + 1) (j := 0) (by omega)).symm
    · by_cases q : b + 1 ≤ y ∧ y < b + 1 + k
      · obtain ⟨i, rfl⟩ : ∃ i, y = b + 1 + i := ⟨y - (b + 1), by omega⟩
        rw [upF_in (by omega), hg, show b + 1 + i = b + (i + 1) by omega, upF_in (by omega)]
      · rw [upF_out (by omega), up2_eq, pk_un h0, upF_out (by omega)]
  · rw [upF_ne hx, up2_ne hx, upF_ne hx]
theorem planI_1 {a n fi fm : Nat} {p : Int32} : ∀ (c k : Nat) (u : Int32) (I : Nat → Nat → Int32), (planI a n fi fm p c k u I).1 = vld n p c k u := by
  intro c
  induction c with
  | zero => intro k u I; rfl
  | succ c ih =>
    intro k u I
    unfold planI vld
    split
    · rfl
    · split
      · exact ih _ _ _
      · rfl
theorem planI_2 {a n fi fm : Nat} {p : Int32} : ∀ (c k : Nat) (u : Int32) (I : Nat → Nat → Int32), vld n p c k u = 1 → (planI a n fi fm p c k u I).2 = upF I (a + 3) (fi + k) (fun i => nI fm + plc n p (k + i)) c := by
  intro c
  induction c with
  | zero => intro k u I _; rw [upF_0]; rfl
  | succ c ih =>
    intro k u I h
    unfold vld at h
    unfold planI
    split at h
    · exact absurd h (by decide)
    · rename_i h1
      rw [if_neg h1]
      split at h
      · rename_i h2
        rw [if_pos h2, ih _ _ _ h]
        exact upF_front rfl (fun i => by show nI fm + plc n p (k + 1 + i) = nI fm + plc n p (k + (i + 1)); rw [show k + 1 + i = k + (i + 1) by omega])
      · exact absurd h (by decide)
theorem ht_plan {I : Nat → Nat → Int32} {n fi fm : Nat} {p : Int32} : ∀ (c k : Nat) (u : Int32) (C : Nat → Nat → Int32), HT I C → fi + k + c ≤ 8 → HT I (planI 9 n fi fm p c k u C).2 := by
  intro c
  induction c with
  | zero => intro k u C h _; exact h
  | succ c ih =>
    intro k u C h h8
    unfold planI
    split
    · exact h
    · split
      · exact ih _ _ _ (ht_12 h (by omega)) (by omega)
      · exact h
/-- an order as a plan -/
def cdN (o : Nat → Nat) : Nat → Nat
  | 0 => 0
  | k + 1 => 4 * cdN o k + o k
def glN (L : List Nat) : Nat → Nat := fun j => L.getD j 0
def nxL (n : Nat) (L : List Nat) : Option (List Nat) := (nxo n (glN L)).map fun o => [o 0, o 1, o 2, o 3]
/-- all orders from L on -/
def seqO (n : Nat) : Nat → List Nat → Option (List (List Nat))
  | 0, _ => none
  | f + 1, L => match nxL n L with
    | none => some [L]
    | some L' => (seqO n f L').map (fun Ls => L :: Ls)
def ltB (f : Nat → Nat) (m : Nat) : Nat → Bool
  | 0 => true
  | k + 1 => Nat.blt (f k) m && ltB f m k
def eqB (f g : Nat → Int32) : Nat → Bool
  | 0 => true
  | k + 1 => decide (f k = g k) && eqB f g k
theorem ltB_use {f : Nat → Nat} {m : Nat} : ∀ k, ltB f m k = true → ∀ j, j < k → f j < m := by
  intro k
  induction k with
  | zero => intro _ j hj; omega
  | succ k ih =>
    intro h j hj
    unfold ltB at h
    rw [Bool.and_eq_true] at h
    by_cases w : j = k
    · subst w; exact Nat.le_of_ble_eq_true h.1
    · exact ih h.2 j (by omega)
theorem eqB_use {f g : Nat → Int32} : ∀ k, eqB f g k = true → ∀ j, j < k → f j = g j := by
  intro k
  induction k with
  | zero => intro _ j hj; omega
  | succ k ih =>
    intro h j hj
    unfold eqB at h
    rw [Bool.and_eq_true] at h
    by_cases w : j = k
    · subst w; exact of_decide_eq_true h.1
    · exact ih h.2 j (by omega)
def okL (n : Nat) (L : List Nat) : Bool := ltB (glN L) 4 4 && (ltB (glN L) n n && (decide (vld n (nI (cdN (glN L) n)) n 0 0 = 1) && eqB (plc n (nI (cdN (glN L) n))) (fun j => nI (glN L j)) n))
theorem okL_use {n : Nat} {L : List Nat} (h : okL n L = true) : (∀ j, j < 4 → glN L j < 4) ∧ (∀ j, j < n → glN L j < n) ∧ vld n (nI (cdN (glN L) n)) n 0 0 = 1 ∧ ∀ j, j < n → plc n (nI (cdN (glN L) n)) j = nI (glN L j) := by
  unfold okL at h
  rw [Bool.and_eq_true, Bool.and_eq_true, Bool.and_eq_true] at h
  exact ⟨ltB_use 4 h.1, ltB_use n h.2.1, of_decide_eq_true h.2.2.1, eqB_use n h.2.2.2⟩
def finL (n : Nat) : Bool := match seqO n 24 [0, 1, 2, 3] with
  | none => false
  | some Ls => Ls.all (okL n) && decide (Ls.map (fun L => cdN (glN L) n) = (List.range (4 ^ n)).filter (fun p => decide (vld n (nI p) n 0 0 = 1)))
theorem fin_L : ∀ n : Nat, n < 5 → 1 ≤ n → finL n = true := by decide +kernel
theorem fin_use {n : Nat} (h4 : 1 ≤ n ∧ n ≤ 4) : ∃ Ls, seqO n 24 [0, 1, 2, 3] = some Ls ∧ (∀ L, L ∈ Ls → okL n L = true) ∧ Ls.map (fun L => cdN (glN L) n) = (List.range (4 ^ n)).filter (fun p => decide (vld n (nI p) n 0 0 = 1)) := by
  have h := fin_L n (by omega) h4.1
  unfold finL at h
  split at h
  · exact absurd h (by decide)
  · rename_i Ls e
    rw [Bool.and_eq_true, List.all_eq_true] at h
    exact ⟨Ls, e, h.1, of_decide_eq_true h.2⟩
theorem foldG_filter {α : Type} {v : Nat → Bool} {s : Nat → α → α} : ∀ (N : Nat) (a : α), foldG (fun p a => if v p = true then s p a else a) 0 N a = ((List.range N).filter v).foldl (fun a p => s p a) a := by
  intro N
  induction N with
  | zero => intro a; rfl
  | succ N ih =>
    intro a
    rw [foldG_add N 1 0 a, ih, List.range_succ, List.filter_append, List.foldl_append]
    show (if v (0 + N) = true then s (0 + N) _ else _) = _
    rw [Nat.zero_add]
    by_cases q : v N = true
    · rw [if_pos q, List.filter_cons_of_pos q]; rfl
    · rw [if_neg q, List.filter_cons_of_neg q]; rfl
/-- the trial with the plan p -/
def tpI (I : Nat → Nat → Int32) (n fi fm p : Nat) : Nat → Nat → Int32 := upF (takeI I 9 5) 12 fi (fun i => nI fm + plc n (nI p) i) n
def psS (I : Nat → Nat → Int32) (n D fi fm p : Nat) (a : Int32 × Nat) : Int32 × Nat := if lbF (tpI I n fi fm p) n D ≤ a.1 then a else (lbF (tpI I n fi fm p) n D, p)
section Cal
variable {F : jx_F} {lv : Nat} {I C X : Nat → Nat → Int32} {J : Nat → Nat → Int64} {n : Nat}
/-- the sides: whose coats, who mends -/
def sd (n : Nat) (s : Int32) (fi fm : Nat) : Prop := (s = 0 ∧ fi = 0 ∧ fm = n) ∨ (s = 1 ∧ fi = n ∧ fm = 0)
theorem tp_in {s p : Int32} {fi fm : Nat} (hs : sd n s fi fm) (hM : Mn C 9 n) : rn F (lv + 1) 23 [.ref 9, .int s, .int p] (HH C J) = some (some (.int (vld n p n 0 0)), HH (planI 9 n fi fm p n 0 0 C).2 J) := by
  rcases hs with ⟨rfl, rfl, rfl⟩ | ⟨rfl, rfl, rfl⟩
  · rw [plan0_in ar_9 hM, planI_1]
  · rw [plan1_in ar_9 hM, planI_1]
theorem wf_upF {C : Nat → Nat → Int32} {a fi k : Nat} {g : Nat → Int32} (h : Wf C a n) (hg : ∀ i, i < k → ∃ o, o < 2 * n ∧ g i = nI o) : Wf (upF C (a + 3) fi g k) a n := by
  refine ⟨⟨by rw [upF_ne (by omega)]; exact h.mn.1, h.mn.2⟩, ?_, ?_, ?_⟩
  · intro i hi; rw [upF_ne (by omega)]; exact h.kd i hi
  · intro i hi; rw [upF_ne (by omega)]; exact h.bt i hi
  · intro i hi
    by_cases w : fi ≤ i ∧ i < fi + k
    · obtain ⟨m, rfl⟩ : ∃ m, i = fi + m := ⟨i - fi, by omega⟩
      rw [upF_in (by omega)]; exact hg m (by omega)
    · rw [upF_out (by omega)]; exact h.md i hi
/-- a plan that there can be has its places among the men -/
def vpB (n : Nat) : Nat → Bool
  | 0 => true
  | p + 1 => (bif decide (vld n (nI p) n 0 0 = 1) then eqB (plc n (nI p)) (fun k => nI (p / 4 ^ (n - 1 - k) % 4)) n && ltB (fun k => p / 4 ^ (n - 1 - k) % 4) n n else true) && vpB n p
theorem vp_fin : ∀ n : Nat, n < 5 → vpB n (4 ^ n) = true := by decide +kernel
theorem vp_use {n : Nat} : ∀ N, vpB n N = true → ∀ p, p < N → vld n (nI p) n 0 0 = 1 → ∀ k, k < n → plc n (nI p) k = nI (p / 4 ^ (n - 1 - k) % 4) ∧ p / 4 ^ (n - 1 - k) % 4 < n := by
  intro N
  induction N with
  | zero => intro _ p hp; omega
  | succ N ih =>
    intro h p hp hv k hk
    unfold vpB at h
    rw [Bool.and_eq_true] at h
    by_cases w : p = N
    · subst w
      have h1 := h.1
      rw [decide_eq_true hv, cond_true, Bool.and_eq_true] at h1
      exact ⟨eqB_use n h1.1 k hk, ltB_use n h1.2 k hk⟩
    · exact ih h.2 p (by omega) hv k hk
theorem vld_plc {n : Nat} (h : n < 5) (p : Nat) (hp : p < 4 ^ n) (hv : vld n (nI p) n 0 0 = 1) (k : Nat) (hk : k < n) : plc n (nI p) k = nI (p / 4 ^ (n - 1 - k) % 4) ∧ p / 4 ^ (n - 1 - k) % 4 < n := vp_use (4 ^ n) (vp_fin n h) p hp hv k hk
theorem tp_wf {fi fm p : Nat} {s : Int32} (h4 : 1 ≤ n ∧ n ≤ 4) (hs : sd n s fi fm) (hW : Wf I 5 n) (hp : p < 4 ^ n) (hv : vld n (nI p) n 0 0 = 1) : Wf (tpI I n fi fm p) 9 n := by
  unfold tpI
  refine wf_upF (a := 9) (cp_wf hW cp_take) (fun i hi => ?_)
  obtain ⟨e1, e2⟩ := vld_plc (show n < 5 by omega) p hp hv i hi
  refine ⟨fm + p / 4 ^ (n - 1 - i) % 4, ?_, by rw [e1, nI_add]⟩
  rcases hs with ⟨_, _, rfl⟩ | ⟨_, _, rfl⟩ <;> omega
theorem lb_pos (h4 : n ≤ 4) {D : Nat} : ¬ lbF C n D ≤ -1 := by
  have e : lbF C n D = nI (cN (fun j => decide (¬ daysI C 9 n D (9 + 2) j = 0)) (2 * n)) := by
    unfold lbF
    rw [← lft_cN, show 2 * n = n + n by omega, fold2_add, Nat.zero_add, lft_acc n n (fold2 (lftF (daysI C 9 n D) 9) 0 n 0)]
  have hc : ∀ (f : Nat → Bool) k, cN f k ≤ k := by
    intro f k
    induction k with
    | zero => exact Nat.le_refl _
    | succ k ih => unfold cN; split <;> omega
  have := hc (fun j => decide (¬ daysI C 9 n D (9 + 2) j = 0)) (2 * n)
  rw [e, Int32.le_iff_toInt_le, nI_toInt (by omega)]
  have e1 : (-1 : Int32).toInt = -1 := rfl
  omega
theorem pl_sh : ∀ n : Nat, n < 5 → (1 : Int32) <<< (2 * nI n &&& 31) = nI (4 ^ n) := by decide
theorem pairs_l {D fi fm : Nat} {s k : Int32} (h4 : 1 ≤ n ∧ n ≤ 4) (hs : sd n s fi fm) (hW : Wf I 5 n) (hD : D < 2 ^ 31) : ∀ (c p : Nat) (a : Int32 × Nat) (H : Nat → Nat → Int32), p + c = 4 ^ n → HT I H → ∃ H', ev F (lv + 6) jm_Main_pairs 58 [.ref 0, .int s, .int (nI D), .int k, .int a.1, .int (nI a.2), .int (nI (4 ^ n)), .int (nI p)] [] (HH H J) = ev F (lv + 6) jm_Main_pairs 128 [.ref 0, .int s, .int (nI D), .int k, .int (foldG (fun p a => if decide (vld n (nI p) n 0 0 = 1) = true then psS I n D fi fm p a else a) p c a).1, .int (nI (foldG (fun p a => if decide (vld n (nI p) n 0 0 = 1) = true then psS I n D fi fm p a else a) p c a).2), .int (nI (4 ^ n)), .int (nI (4 ^ n))] [] (HH H' J) ∧ HT I H' := by
  have h256 : 4 ^ n ≤ 256 := Nat.pow_le_pow_right (n := 4) (by decide) h4.2
  have hfi : fi + n ≤ 8 := by rcases hs with ⟨_, rfl, _⟩ | ⟨_, rfl, _⟩ <;> omega
  intro c
  induction c with
  | zero =>
    intro p a H hp ht
    obtain rfl : p = 4 ^ n := by omega
    refine ⟨H, ?_, ht⟩
    rw [s_Main_pairs_58]
    simp only [s_Main_pairs_60, s_Main_pairs_62, if_pos (nI_le (Nat.le_refl (4 ^ n)) (show 4 ^ n < 2 ^ 31 by omega)), foldG]
  | succ c ih =>
    intro p a H hp ht
    have hw0 : Wf (takeI I 9 5) 9 n := cp_wf hW cp_take
    have tp := tp_in (F := F) (lv := lv + 4) (J := J) (p := nI p) hs hw0.mn
    have eg : foldG (fun p a => if decide (vld n (nI p) n 0 0 = 1) = true then psS I n D fi fm p a else a) p (c + 1) a = foldG (fun p a => if decide (vld n (nI p) n 0 0 = 1) = true then psS I n D fi fm p a else a) (p + 1) c (if decide (vld n (nI p) n 0 0 = 1) = true then psS I n D fi fm p a else a) := rfl
    rw [s_Main_pairs_58, eg]
    simp only [s_Main_pairs_60, s_Main_pairs_62, if_neg (nI_ge (show p < 4 ^ n by omega) (show 4 ^ n < 2 ^ 31 by omega)), s_Main_pairs_65, s_Main_pairs_66, s_Main_pairs_69, s_Main_pairs_70, s_Main_pairs_73 (ar_rcv ar_9), g_0_1, g_0_2, take_in ar_9 ar_5 (show 5 + 3 < 9 ∨ 9 + 3 < 5 by decide), ht_take ht, Option.bind_some, Option.toList_none, List.nil_append, s_Main_pairs_76, s_Main_pairs_77, s_Main_pairs_80, s_Main_pairs_81, s_Main_pairs_83 (ar_rcv ar_9), tp, Option.toList_some, List.cons_append, s_Main_pairs_86]
    by_cases q : vld n (nI p) n 0 0 = 1
    · have e2 := planI_2 (a := 9) (fi := fi) (fm := fm) n 0 0 (takeI I 9 5) q
      have e3 : (planI 9 n fi fm (nI p) n 0 0 (takeI I 9 5)).2 = tpI I n fi fm p := by
        rw [e2, Nat.add_zero]
        unfold tpI
        congr 1
        funext i
        rw [Nat.zero_add]
      have hw1 := tp_wf h4 hs hW (show p < 4 ^ n by omega) q
      have ht2 : HT I (daysI (tpI I n fi fm p) 9 n D) := by
        rw [← e3]; exact ht_days h4.2 D _ (ht_plan n 0 0 _ ht_tk (by omega))
      have lb : rn F (lv + 2 + 3) 20 [.ref 9] (HH (daysI (tpI I n fi fm p) 9 n D) J) = some (some (.int (lbF (tpI I n fi fm p) n D)), HH (daysI (tpI I n fi fm p) 9 n D) J) := lftb_in ar_9 (wf_days D hw1).mn
      simp only [q, if_neg (show ¬ (1 : Int32) = 0 by decide), e3, decide_true, if_true, s_Main_pairs_89, s_Main_pairs_90, g_0_2, s_Main_pairs_93, s_Main_pairs_94 (ar_rcv ar_9), pass_in hD ar_9 hw1, Option.bind_some, Option.toList_none, List.nil_append, s_Main_pairs_97, s_Main_pairs_98, s_Main_pairs_101 (ar_rcv ar_9), lb, Option.toList_some, List.cons_append, s_Main_pairs_104, s_Main_pairs_106, psS]
      by_cases w : lbF (tpI I n fi fm p) n D ≤ a.1
      · simp only [if_pos w, s_Main_pairs_122, s_Main_pairs_125, nI_1]
        exact ih (p + 1) a _ (by omega) ht2
      · simp only [if_neg w, s_Main_pairs_109, s_Main_pairs_110, g_0_2, s_Main_pairs_113 (ar_rcv ar_9), lb, Option.bind_some, Option.toList_some, List.cons_append, List.nil_append, s_Main_pairs_116, s_Main_pairs_118, s_Main_pairs_120, s_Main_pairs_122, s_Main_pairs_125, nI_1]
        exact ih (p + 1) (lbF (tpI I n fi fm p) n D, p) _ (by omega) ht2
    · have q0 : vld n (nI p) n 0 0 = 0 := by
        have : ∀ (c k : Nat) (u : Int32), vld n (nI p) c k u = 1 ∨ vld n (nI p) c k u = 0 := by
          intro c
          induction c with
          | zero => intro k u; exact Or.inl rfl
          | succ c ih =>
            intro k u
            unfold vld
            split
            · exact Or.inr rfl
            · split
              · exact ih _ _
              · exact Or.inr rfl
        rcases this n 0 0 with w | w
        · exact absurd w q
        · exact w
      simp only [q0, if_true, show ¬ (0 : Int32) = 1 by decide, decide_false, Bool.false_eq_true, if_false, s_Main_pairs_122, s_Main_pairs_125, nI_1]
      exact ih (p + 1) a _ (by omega) (ht_plan n 0 0 _ ht_tk (by omega))
end Cal
