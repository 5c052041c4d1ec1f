/-! ===== trials ===== -/
def foldG {α : Type} (f : Nat → α → α) : Nat → Nat → α → α
  | _, 0, a => a
  | m, c + 1, a => foldG f (m + 1) c (f m a)
theorem foldG_add {α : Type} {f : Nat → α → α} : ∀ (c d m : Nat) (a : α), foldG f m (c + d) a = foldG f (m + c) d (foldG f m c a) := by
  intro c
  induction c with
  | zero => intro d m a; rw [Nat.zero_add]; rfl
  | succ c ih =>
    intro d m a
    rw [show c + 1 + d = (c + d) + 1 by omega]
    show foldG f (m + 1) (c + d) (f m a) = _
    rw [ih d (m + 1), show m + 1 + c = m + (c + 1) by omega]
    rfl
theorem foldG_cg {α : Type} {f g : Nat → α → α} (Q : α → Prop) : ∀ (c m : Nat) (a : α), Q a → (∀ i, m ≤ i → i < m + c → ∀ a, Q a → f i a = g i a ∧ Q (f i a)) → foldG f m c a = foldG g m c a ∧ Q (foldG f m c a) := by
  intro c
  induction c with
  | zero => intro m a h _; exact ⟨rfl, h⟩
  | succ c ih =>
    intro m a h h2
    obtain ⟨e, q⟩ := h2 m (by omega) (by omega) a h
    show foldG f (m + 1) c (f m a) = foldG g (m + 1) c (g m a) ∧ Q (foldG f (m + 1) c (f m a))
    rw [← e]
    exact ih (m + 1) _ q (fun i h1 h3 => h2 i (by omega) (by omega))
theorem foldG_id {α : Type} {f : Nat → α → α} : ∀ (c m : Nat) (a : α), (∀ i, m ≤ i → i < m + c → ∀ a, f i a = a) → foldG f m c a = a := by
  intro c
  induction c with
  | zero => intro m a _; rfl
  | succ c ih =>
    intro m a h
    show foldG f (m + 1) c (f m a) = a
    rw [h m (by omega) (by omega), ih (m + 1) _ (fun i h1 h2 => h i (by omega) (by omega))]
/-- how many are left behind D days of the trial -/
def lbF (C : Nat → Nat → Int32) (n D : Nat) : Int32 := fold2 (lftF (daysI C 9 n D) 9) 0 n 0 + fold2 (lftF (daysI C 9 n D) 9) n n 0
/-- a trial as it is, but for what a trial has written -/
def HT (I H : Nat → Nat → Int32) : Prop := (∀ x, x < 9 ∨ 12 < x → H x = I x) ∧ (∀ x, 10 ≤ x → x ≤ 12 → ∀ j, 8 ≤ j → H x j = I x j) ∧ (∀ j, j ≠ 3 → j ≠ 4 → H 9 j = I 9 j)
section Try
variable {F : jx_F} {lv : Nat} {I H C X I1 : Nat → Nat → Int32} {J : Nat → Nat → Int64} {n : Nat}
theorem ht_refl : HT I I := ⟨fun _ _ => rfl, fun _ _ _ _ _ => rfl, fun _ _ _ => rfl⟩
theorem ht_take (h : HT I H) : takeI H 9 5 = takeI I 9 5 := by
  have h5 := h.1 5 (by decide)
  have h6 := h.1 6 (by decide)
  have h7 := h.1 7 (by decide)
  have h8 := h.1 8 (by decide)
  funext x
  unfold takeI
  by_cases x0 : x = 9
  · simp only [x0, if_true]
    funext j
    rw [h5]
    by_cases w4 : j = 4
    · rw [w4, pk_us, pk_us]
    · rw [pk_un w4, pk_un w4]
      by_cases w3 : j = 3
      · rw [w3, pk_us, pk_us]
      · rw [pk_un w3, pk_un w3]; exact h.2.2 j w3 w4
  · simp only [if_neg x0]
    have cp : ∀ (f g g' : Nat → Int32), (∀ j, 8 ≤ j → g j = g' j) → va_cpy f g 0 0 8 = va_cpy f g' 0 0 8 := fun f g g' e => by
      funext j
      by_cases w : j < 8
      · rw [pk_cpy_in (by omega) (by omega), pk_cpy_in (by omega) (by omega)]
      · rw [pk_cpy_out (by omega), pk_cpy_out (by omega)]; exact e j (by omega)
    by_cases x1 : x = 9 + 1
    · simp only [x1, if_true]
      rw [show 5 + 1 = 6 from rfl, h6]
      exact cp _ _ _ (h.2.1 10 (by decide) (by decide))
    · simp only [if_neg x1]
      by_cases x2 : x = 9 + 2
      · simp only [x2, if_true]
        rw [show 5 + 2 = 7 from rfl, h7]
        exact cp _ _ _ (h.2.1 11 (by decide) (by decide))
      · simp only [if_neg x2]
        by_cases x3 : x = 9 + 3
        · simp only [x3, if_true]
          rw [show 5 + 3 = 8 from rfl, h8]
          exact cp _ _ _ (h.2.1 12 (by decide) (by decide))
        · simp only [if_neg x3]
          exact h.1 x (by omega)
theorem ht_tk : HT I (takeI I 9 5) := by
  refine ⟨fun x hx => take_ne (by omega) (by omega) (by omega) (by omega), ?_, ?_⟩
  · intro x h1 h2 j hj
    unfold takeI
    rw [if_neg (by omega)]
    by_cases x1 : x = 9 + 1
    · rw [if_pos x1, pk_cpy_out (by omega), x1]
    · rw [if_neg x1]
      by_cases x2 : x = 9 + 2
      · rw [if_pos x2, pk_cpy_out (by omega), x2]
      · rw [if_neg x2]
        by_cases x3 : x = 9 + 3
        · rw [if_pos x3, pk_cpy_out (by omega), x3]
        · rw [if_neg x3]
  · intro j h3 h4
    unfold takeI
    rw [if_pos rfl, pk_un h4, pk_un h3]
theorem ht_12 {m : Nat} {v : Int32} (h : HT I C) (hm : m < 8) : HT I (up2 C 12 m v) := by
  refine ⟨fun x hx => by rw [up2_ne (by omega)]; exact h.1 x hx, ?_, fun j h3 h4 => by rw [up2_ne (by decide)]; exact h.2.2 j h3 h4⟩
  intro x h1 h2 j hj
  by_cases w : x = 12
  · subst w; rw [up2_eq, pk_un (by omega)]; exact h.2.1 12 h1 h2 j hj
  · rw [up2_ne w]; exact h.2.1 x h1 h2 j hj
theorem ht_up {g : Nat → Int32} {k : Nat} (h : HT I C) (hk : k ≤ 8) : HT I (upTo C (9 + 2) g k) := by
  refine ⟨fun x hx => by rw [upTo_ne (by omega)]; exact h.1 x hx, ?_, fun j h3 h4 => by rw [upTo_ne (by decide)]; exact h.2.2 j h3 h4⟩
  intro x h1 h2 j hj
  by_cases w : x = 9 + 2
  · subst w; rw [upTo_ge (by omega)]; exact h.2.1 _ h1 h2 j hj
  · rw [upTo_ne w]; exact h.2.1 x h1 h2 j hj
theorem ht_94 {v : Int32} (h : HT I C) : HT I (up2 C 9 4 v) :=
  ⟨fun x hx => by rw [up2_ne (by omega)]; exact h.1 x hx, fun x h1 h2 j hj => by rw [up2_ne (by omega)]; exact h.2.1 x h1 h2 j hj, fun j h3 h4 => by rw [up2_eq, pk_un h4]; exact h.2.2 j h3 h4⟩
theorem ht_day (h : HT I C) (hn : n ≤ 4) : HT I (dayI C 9 n) := by
  have hs : HT I (shotI C 9 n) := by unfold shotI; exact ht_up (ht_94 h) (by omega)
  unfold dayI
  split
  · exact ht_up hs (by omega)
  · exact hs
theorem ht_days (hn : n ≤ 4) : ∀ (c : Nat) (C : Nat → Nat → Int32), HT I C → HT I (daysI C 9 n c) := by
  intro c
  induction c with
  | zero => intro C h; exact h
  | succ c ih => intro C h; exact ih _ (ht_day h hn)
theorem wf_u3 {a j s : Nat} (h : Wf C a n) (hs : s < 2 * n) : Wf (up2 C (a + 3) j (nI s)) a n := by
  refine ⟨⟨by rw [up2_ne (by omega)]; exact h.mn.1, h.mn.2⟩, ?_, ?_, ?_⟩
  · intro i hi; rw [up2_ne (by omega)]; exact h.kd i hi
  · intro i hi; rw [up2_ne (by omega)]; exact h.bt i hi
  · intro i hi
    rw [up2_eq]
    by_cases w : i = j
    · subst w; exact ⟨s, hs, pk_us⟩
    · rw [pk_un w]; exact h.md i hi
theorem rw_u3 {a b j s : Nat} (h : Rw C a X b n) (hb : b = 0 ∨ 26 ≤ b) (hj : j < 2 * n) (hs : s < 2 * n) : Rw (up2 C (a + 3) j (nI s)) a (up2 X 74 (b + 8 + j) (nI s)) b n := by
  have h4 := h.ms
  refine ⟨wf_u3 h.wf hs, h.ba, ?_, ?_, ?_, ?_, ?_⟩
  · rw [up2_eq, pk_un (by omega)]; exact h.nn
  · intro i hi; rw [up2_eq, pk_un (by omega), up2_ne (by omega)]; exact h.k hi
  · intro i hi; rw [up2_eq, pk_un (by omega), up2_ne (by omega)]; exact h.bt hi
  · intro i hi
    rw [up2_eq, up2_eq]
    by_cases w : i = j
    · subst w; rw [pk_us, pk_us]
    · rw [pk_un (by omega), pk_un w]; exact h.md hi
  · rw [up2_eq, pk_un (by omega), up2_ne (by omega)]; exact h.dy
theorem mlb_in {D d : Nat} (h : Rw C 9 X 222 n) (hd : C 9 4 = nI d) (hd' : d + D < 2 ^ 20) : ∃ X', rn F (lv + 4) 150 [.ref 73, .int (nI D)] (HH X J) = some (some (.int (lbF C n D)), HH X' J) ∧ Fr X X' 222 := by
  obtain ⟨X', e, r, f⟩ := mdays_in (F := F) (lv := lv) (J := J) (D := D) h (by omega) hd hd'
  have o := mfld_in (F := F) (lv := lv + 2) (J := J) r
  refine ⟨X', ?_, f⟩
  rw [show nI 222 = (222 : Int32) from rfl] at e o
  simp only [e_Model_leftBehind, s_Model_leftBehind_0, s_Model_leftBehind_1, s_Model_leftBehind_4, s_Model_leftBehind_5 rcv_73, s_Model_leftBehind_8, s_Model_leftBehind_9, s_Model_leftBehind_12 rcv_73, s_Model_leftBehind_15, s_Model_leftBehind_18, e, o, mbits_in, Option.bind_some, Option.toList_some, Option.toList_none, List.cons_append, List.nil_append, i10, i01, if_false, if_true, nI_add, nI_1, lbF]
  rw [left_bits h.ms.2]
/-- what the Model's trials leave of the heap Y -/
def Ft (Y X : Nat → Nat → Int32) : Prop := (∀ x, x ≠ 74 → x ≠ 92 → X x = Y x) ∧ ∀ y, y < 222 → X 74 y = Y 74 y
theorem ft_refl : Ft X X := ⟨fun _ _ _ => rfl, fun _ _ => rfl⟩
theorem ft_fr {Y X' : Nat → Nat → Int32} (h : Ft Y X) (f : Fr X X' 222) : Ft Y X' :=
  ⟨fun x a b => (f.1 x a b).trans (h.1 x a b), fun y hy => (f.2 y (by omega) (by omega)).trans (h.2 y hy)⟩
theorem ft_up {Y : Nat → Nat → Int32} {g : Nat → Int32} {k : Nat} (h : Ft Y X) : Ft Y (upF X 74 222 g k) :=
  ⟨fun x a b => by rw [upF_ne a]; exact h.1 x a b, fun y hy => by rw [upF_out (by omega)]; exact h.2 y hy⟩
theorem ft_u2 {Y : Nat → Nat → Int32} {y : Nat} {v : Int32} (h : Ft Y X) (hy : 222 ≤ y) : Ft Y (up2 X 74 y v) :=
  ⟨fun x a b => by rw [up2_ne a]; exact h.1 x a b, fun z hz => by rw [up2_eq, pk_un (by omega)]; exact h.2 z hz⟩
theorem lay_rw2 {Y : Nat → Nat → Int32} (h : Rw I 5 I 0 n) (e : Y 74 = I 74) (f : Ft Y X) : Rw (takeI I 9 5) 9 (upF X 74 222 (fun j => X 74 (0 + j)) 17) 222 n := by
  refine rw_cp h cp_take (Nat.le_refl _) ?_ ?_
  · intro y h1 h2; rw [upF_out (by omega), f.2 y (by omega), e]
  · intro k hk; rw [upF_in hk, f.2 _ (by omega), e]
theorem ft_rw {Y : Nat → Nat → Int32} (h : Rw I 5 I 0 n) (e : Y 74 = I 74) (f : Ft Y X) : Rw I 5 X 0 n :=
  rw_cp h cp_refl (by decide) (fun y h1 h2 => by rw [f.2 y (by omega), e]) (fun k hk => by rw [f.2 _ (by omega), e])
theorem kp_ft {Y : Nat → Nat → Int32} (hc : ∀ x, x < 9 ∨ 12 < x → Y x = I x) (f : Ft Y X) : Kp I X := by
  have e : ∀ x, x ≠ 74 → x ≠ 92 → (x < 9 ∨ 12 < x) → X x = I x := fun x h1 h2 h3 => by rw [f.1 x h1 h2, hc x h3]
  refine ⟨fun x h1 h2 h3 h4 h5 h6 => e x h3 (by omega) (by omega), ?_, ?_, ?_, ?_, ?_⟩
  · rw [e 13 (by decide) (by decide) (by decide)]
  · rw [e 73 (by decide) (by decide) (by decide)]
  · rw [e 73 (by decide) (by decide) (by decide)]
  · rw [e 73 (by decide) (by decide) (by decide)]
  · intro y hy; rw [f.2 y hy, hc 74 (by decide)]
end Try
