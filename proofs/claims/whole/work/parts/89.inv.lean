/-! ===== armies that are alike; the Model's rows carried over ===== -/
def CpA (C : Nat → Nat → Int32) (a : Nat) (C' : Nat → Nat → Int32) (a' : Nat) : Prop := C' a' 3 = C a 3 ∧ C' a' 4 = C a 4 ∧ (∀ j, j < 8 → C' (a' + 1) j = C (a + 1) j) ∧ (∀ j, j < 8 → C' (a' + 2) j = C (a + 2) j) ∧ (∀ j, j < 8 → C' (a' + 3) j = C (a + 3) j)
section Cpy
variable {I I' C C' : Nat → Nat → Int32} {a a' b b' n : Nat}
theorem cp_refl : CpA C a C a := ⟨rfl, rfl, fun _ _ => rfl, fun _ _ => rfl, fun _ _ => rfl⟩
theorem cp_same (h0 : C' a = C a) (h1 : C' (a + 1) = C (a + 1)) (h2 : C' (a + 2) = C (a + 2)) (h3 : C' (a + 3) = C (a + 3)) : CpA C a C' a :=
  ⟨by rw [h0], by rw [h0], fun _ _ => by rw [h1], fun _ _ => by rw [h2], fun _ _ => by rw [h3]⟩
theorem cp_trans {C'' : Nat → Nat → Int32} {a'' : Nat} (h : CpA C a C' a') (g : CpA C' a' C'' a'') : CpA C a C'' a'' :=
  ⟨g.1.trans h.1, g.2.1.trans h.2.1, fun j hj => (g.2.2.1 j hj).trans (h.2.2.1 j hj), fun j hj => (g.2.2.2.1 j hj).trans (h.2.2.2.1 j hj), fun j hj => (g.2.2.2.2 j hj).trans (h.2.2.2.2 j hj)⟩
theorem cp_take : CpA C b (takeI C a b) a := by
  unfold takeI
  refine ⟨?_, ?_, ?_, ?_, ?_⟩
  · simp only [if_true]; rw [pk_un (by decide), pk_us]
  · simp only [if_true]; rw [pk_us]
  · intro j hj
    simp only [if_neg (show ¬ a + 1 = a by omega), if_true]
    rw [pk_cpy_in (by omega) (by omega)]
    congr 1; omega
  · intro j hj
    simp only [if_neg (show ¬ a + 2 = a by omega), if_neg (show ¬ a + 2 = a + 1 by omega), if_true]
    rw [pk_cpy_in (by omega) (by omega)]
    congr 1; omega
  · intro j hj
    simp only [if_neg (show ¬ a + 3 = a by omega), if_neg (show ¬ a + 3 = a + 1 by omega), if_neg (show ¬ a + 3 = a + 2 by omega), if_true]
    rw [pk_cpy_in (by omega) (by omega)]
    congr 1; omega
theorem cp_wf (h : Wf C a n) (hc : CpA C a C' a') : Wf C' a' n := by
  have h2 := h.mn.2
  refine ⟨⟨hc.1.trans h.mn.1, h2⟩, ?_, ?_, ?_⟩
  · intro j hj; rw [hc.2.2.1 j (by omega)]; exact h.kd j hj
  · intro j hj; rw [hc.2.2.2.1 j (by omega)]; exact h.bt j hj
  · intro j hj; rw [hc.2.2.2.2 j (by omega)]; exact h.md j hj
theorem rw_cp (h : Rw C a I b n) (hc : CpA C a C' a') (hb : b' ≤ 222) (h17 : ∀ y, 17 ≤ y → y < 26 → I' 74 y = I 74 y) (hr : ∀ k, k < 17 → I' 74 (b' + k) = I 74 (b + k)) : Rw C' a' I' b' n := by
  have h2 := h.ms
  refine ⟨cp_wf h.wf hc, hb, ?_, ?_, ?_, ?_, ?_⟩
  · rw [h17 17 (by decide) (by decide)]; exact h.nn
  · intro j hj; rw [h17 (18 + j) (by omega) (by omega), hc.2.2.1 j (by omega)]; exact h.k hj
  · intro j hj; rw [hr j (by omega), hc.2.2.2.1 j (by omega)]; exact h.bt hj
  · intro j hj; rw [Nat.add_assoc, hr (8 + j) (by omega), ← Nat.add_assoc, hc.2.2.2.2 j (by omega)]; exact h.md hj
  · rw [hr 16 (by decide), hc.2.1]; exact h.dy
theorem days_ne {x : Nat} (h0 : x ≠ a) (h2 : x ≠ a + 2) : ∀ (c : Nat) (C : Nat → Nat → Int32), daysI C a n c x = C x := by
  have e1 : ∀ C : Nat → Nat → Int32, shotI C a n x = C x := fun C => by unfold shotI; rw [upTo_ne h2, up2_ne h0]
  have e2 : ∀ C : Nat → Nat → Int32, dayI C a n x = C x := fun C => by
    unfold dayI
    split
    · rw [upTo_ne h2]; exact e1 C
    · exact e1 C
  intro c
  induction c with
  | zero => intro C; rfl
  | succ c ih => intro C; show daysI (dayI C a n) a n c x = _; rw [ih, e2]
theorem day_ne {x : Nat} (h0 : x ≠ a) (h2 : x ≠ a + 2) : dayI C a n x = C x := days_ne h0 h2 1 C
end Cpy
/-! ===== what holds between the class's cells and the Model's ===== -/
def pText (I : Nat → Nat → Int32) : Prop := ∃ len, len ≤ 200 ∧ I 13 2 = nI len ∧ I 73 4 = nI len ∧ ∀ i, i < len → I 14 i = I 76 i
def pSeen (I : Nat → Nat → Int32) : Prop := ∃ c, c ≤ 6 ∧ I 63 2 = nI c ∧ I 73 5 = nI c ∧ ∀ k, k < c → I 64 k = I 77 k ∧ I 65 k = 10 * I 78 k + I 79 k
def pSht (I : Nat → Nat → Int32) (J : Nat → Nat → Int64) (s : Nat) : Prop :=
  (I (67 + 2 * s) 1 = -1 ∧ I (67 + 2 * s) 2 = 0 ∧ I 81 s = -1) ∨
  (∃ z t, z ≤ 10 ∧ t ≤ 1 ∧ I (67 + 2 * s) 1 = nI t ∧ I 80 s = nI t ∧ I (67 + 2 * s) 2 = nI z ∧ I 81 s = nI z ∧ ∀ k, k < z → J (68 + 2 * s) k = (I 82 (10 * s + k)).toInt64 ∧ -9999 ≤ I 82 (10 * s + k) ∧ I 82 (10 * s + k) ≤ 9999)
def pSheet (I : Nat → Nat → Int32) (J : Nat → Nat → Int64) : Prop := pSht I J 0 ∧ pSht I J 1 ∧ pSht I J 2
def pWord (I : Nat → Nat → Int32) : Prop := ∀ w, w < 8 → ∀ i, i < wdN w → I (84 + w) i = wdL w i
def pTold (I : Nat → Nat → Int32) : Prop := ∃ m, Wf I 1 m ∧ I 1 4 = 0 ∧ I 74 43 = nI m ∧ I 74 42 = 0 ∧ (∀ j, j < 2 * m → I 74 (44 + j) = I 2 j) ∧ (∀ j, j < 2 * m → I 74 (26 + j) = I 3 j) ∧ (∀ j, j < 2 * m → I 74 (34 + j) = I 4 j)
/-- the place in the ring of the k-th of num, nx the next place -/
def rg (nx num k : Nat) : Nat := (nx + 8 - num + k) % 8
/-- an army of the class, the Model's row, a day that there can be -/
def pA (I : Nat → Nat → Int32) (n a b : Nat) : Prop := Rw I a I b n ∧ ∃ d, d ≤ 999 ∧ I a 4 = nI d
def pPast (I : Nat → Nat → Int32) (n : Nat) : Prop := ∃ nx num, nx < 8 ∧ num ≤ 8 ∧ I 19 1 = nI nx ∧ I 19 2 = nI num ∧ I 73 1 = nI num ∧ ∀ k, k < num → pA I n (21 + 4 * rg nx num k) (52 + 17 * k)
def pKept (I : Nat → Nat → Int32) (n : Nat) : Prop := ∀ k, k < 2 → I 62 k = I 75 k ∧ (I 62 k = 0 ∨ (I 62 k = 1 ∧ pA I n (54 + 4 * k) (188 + 17 * k)))
def pArm (I : Nat → Nat → Int32) : Prop := ∃ n, pA I n 5 0 ∧ pPast I n ∧ pKept I n
def Inv (I : Nat → Nat → Int32) (J : Nat → Nat → Int64) : Prop := pText I ∧ pSeen I ∧ pSheet I J ∧ pWord I ∧ pTold I ∧ pArm I
section Trn
variable {I I' : Nat → Nat → Int32} {J J' : Nat → Nat → Int64} {n : Nat}
theorem pText_c (h : pText I) (h1 : I' 13 2 = I 13 2) (h2 : I' 14 = I 14) (h3 : I' 73 4 = I 73 4) (h4 : I' 76 = I 76) : pText I' := by
  unfold pText at h ⊢; rw [h1, h2, h3, h4]; exact h
theorem pSeen_c (h : pSeen I) (h1 : I' 63 2 = I 63 2) (h2 : I' 64 = I 64) (h3 : I' 65 = I 65) (h4 : I' 73 5 = I 73 5) (h5 : I' 77 = I 77) (h6 : I' 78 = I 78) (h7 : I' 79 = I 79) : pSeen I' := by
  unfold pSeen at h ⊢; rw [h1, h2, h3, h4, h5, h6, h7]; exact h
theorem pSht_c {s : Nat} (h : pSht I J s) (h1 : I' (67 + 2 * s) 1 = I (67 + 2 * s) 1) (h1' : I' (67 + 2 * s) 2 = I (67 + 2 * s) 2) (h2 : I' 80 = I 80) (h3 : I' 81 = I 81) (h4 : I' 82 = I 82) (h5 : J' (68 + 2 * s) = J (68 + 2 * s)) : pSht I' J' s := by
  unfold pSht at h ⊢; rw [h1, h1', h2, h3, h4, h5]; exact h
theorem pSheet_c (h : pSheet I J) (h1 : I' 67 = I 67) (h2 : I' 69 = I 69) (h3 : I' 71 = I 71) (h4 : I' 80 = I 80) (h5 : I' 81 = I 81) (h6 : I' 82 = I 82) : pSheet I' J :=
  ⟨pSht_c h.1 (by show I' 67 1 = I 67 1; rw [h1]) (by show I' 67 2 = I 67 2; rw [h1]) h4 h5 h6 rfl, pSht_c h.2.1 (by show I' 69 1 = I 69 1; rw [h2]) (by show I' 69 2 = I 69 2; rw [h2]) h4 h5 h6 rfl, pSht_c h.2.2 (by show I' 71 1 = I 71 1; rw [h3]) (by show I' 71 2 = I 71 2; rw [h3]) h4 h5 h6 rfl⟩
theorem pWord_c (h : pWord I) (h1 : ∀ w, w < 8 → I' (84 + w) = I (84 + w)) : pWord I' := by
  intro w hw i hi; rw [h1 w hw]; exact h w hw i hi
theorem pTold_c (h : pTold I) (h1 : I' 1 = I 1) (h2 : I' 2 = I 2) (h3 : I' 3 = I 3) (h4 : I' 4 = I 4) (h5 : ∀ y, 26 ≤ y → y < 52 → I' 74 y = I 74 y) : pTold I' := by
  obtain ⟨m, hw, hd, hm, h42, hk, hb, hmd⟩ := h
  have hm4 := hw.mn.2.2
  refine ⟨m, cp_wf hw (cp_same h1 h2 h3 h4), by rw [h1]; exact hd, by rw [h5 43 (by decide) (by decide)]; exact hm, by rw [h5 42 (by decide) (by decide)]; exact h42, ?_, ?_, ?_⟩
  · intro j hj; rw [h5 _ (by omega) (by omega), h2]; exact hk j hj
  · intro j hj; rw [h5 _ (by omega) (by omega), h3]; exact hb j hj
  · intro j hj; rw [h5 _ (by omega) (by omega), h4]; exact hmd j hj
theorem pA_c {a b : Nat} (h : pA I n a b) (h0 : I' a = I a) (h1 : I' (a + 1) = I (a + 1)) (h2 : I' (a + 2) = I (a + 2)) (h3 : I' (a + 3) = I (a + 3)) (h17 : ∀ y, 17 ≤ y → y < 26 → I' 74 y = I 74 y) (hr : ∀ k, k < 17 → I' 74 (b + k) = I 74 (b + k)) : pA I' n a b :=
  ⟨rw_cp h.1 (cp_same h0 h1 h2 h3) h.1.ba h17 hr, by rw [h0]; exact h.2⟩
theorem rg_lt {nx num k : Nat} : rg nx num k < 8 := Nat.mod_lt _ (by decide)
theorem pPast_c (h : pPast I n) (h1 : I' 19 1 = I 19 1) (h2 : I' 19 2 = I 19 2) (h3 : I' 73 1 = I 73 1) (h4 : ∀ x, 21 ≤ x → x < 53 → I' x = I x) (h17 : ∀ y, 17 ≤ y → y < 26 → I' 74 y = I 74 y) (hr : ∀ y, 52 ≤ y → y < 188 → I' 74 y = I 74 y) : pPast I' n := by
  obtain ⟨nx, num, hx, hm, e1, e2, e3, hp⟩ := h
  refine ⟨nx, num, hx, hm, by rw [h1]; exact e1, by rw [h2]; exact e2, by rw [h3]; exact e3, ?_⟩
  intro k hk
  have hl := rg_lt (nx := nx) (num := num) (k := k)
  exact pA_c (hp k hk) (h4 _ (by omega) (by omega)) (h4 _ (by omega) (by omega)) (h4 _ (by omega) (by omega)) (h4 _ (by omega) (by omega)) h17 (fun y hy => hr _ (by omega) (by omega))
theorem pKept_c (h : pKept I n) (h1 : I' 62 = I 62) (h2 : I' 75 = I 75) (h4 : ∀ x, 54 ≤ x → x < 62 → I' x = I x) (h17 : ∀ y, 17 ≤ y → y < 26 → I' 74 y = I 74 y) (hr : ∀ y, 188 ≤ y → y < 222 → I' 74 y = I 74 y) : pKept I' n := by
  intro k hk
  obtain ⟨e, q⟩ := h k hk
  rw [h1, h2]
  refine ⟨e, ?_⟩
  rcases q with q | ⟨q1, q2⟩
  · exact Or.inl q
  · exact Or.inr ⟨q1, pA_c q2 (h4 _ (by omega) (by omega)) (h4 _ (by omega) (by omega)) (h4 _ (by omega) (by omega)) (h4 _ (by omega) (by omega)) h17 (fun y hy => hr _ (by omega) (by omega))⟩
/-- cells that calls which only tell may write -/
def Kp (I I' : Nat → Nat → Int32) : Prop :=
  (∀ x, x ≠ 13 → x ≠ 73 → x ≠ 74 → x ≠ 83 → (x < 9 ∨ 18 < x ∨ x = 14) → x < 92 → I' x = I x) ∧ I' 13 2 = I 13 2 ∧ I' 73 1 = I 73 1 ∧ I' 73 4 = I 73 4 ∧ I' 73 5 = I 73 5 ∧ ∀ y, y < 222 → I' 74 y = I 74 y
theorem Kp.refl : Kp I I := ⟨fun _ _ _ _ _ _ _ => rfl, rfl, rfl, rfl, rfl, fun _ _ => rfl⟩
theorem Kp.trans {I'' : Nat → Nat → Int32} (h : Kp I I') (g : Kp I' I'') : Kp I I'' :=
  ⟨fun x a b c d e f => (g.1 x a b c d e f).trans (h.1 x a b c d e f), g.2.1.trans h.2.1, g.2.2.1.trans h.2.2.1, g.2.2.2.1.trans h.2.2.2.1, g.2.2.2.2.1.trans h.2.2.2.2.1, fun y hy => (g.2.2.2.2.2 y hy).trans (h.2.2.2.2.2 y hy)⟩
theorem inv_kp (h : Inv I J) (k : Kp I I') : Inv I' J := by
  obtain ⟨k1, k2, k3, k4, k5, k6⟩ := k
  obtain ⟨hT, hS, hH, hW, hO, n, hN, hP, hK⟩ := h
  have c : ∀ x, x ≠ 13 → x ≠ 73 → x ≠ 74 → x ≠ 83 → (x < 9 ∨ 18 < x ∨ x = 14) → x < 92 → I' x = I x := k1
  refine ⟨pText_c hT k2 (c 14 (by decide) (by decide) (by decide) (by decide) (by decide) (by decide)) k4 (c 76 (by decide) (by decide) (by decide) (by decide) (by decide) (by decide)), ?_, ?_, ?_, ?_, n, ?_, ?_, ?_⟩
  · exact pSeen_c hS (by rw [c 63 (by decide) (by decide) (by decide) (by decide) (by decide) (by decide)]) (c 64 (by decide) (by decide) (by decide) (by decide) (by decide) (by decide)) (c 65 (by decide) (by decide) (by decide) (by decide) (by decide) (by decide)) k5 (c 77 (by decide) (by decide) (by decide) (by decide) (by decide) (by decide)) (c 78 (by decide) (by decide) (by decide) (by decide) (by decide) (by decide)) (c 79 (by decide) (by decide) (by decide) (by decide) (by decide) (by decide))
  · exact pSheet_c hH (c 67 (by decide) (by decide) (by decide) (by decide) (by decide) (by decide)) (c 69 (by decide) (by decide) (by decide) (by decide) (by decide) (by decide)) (c 71 (by decide) (by decide) (by decide) (by decide) (by decide) (by decide)) (c 80 (by decide) (by decide) (by decide) (by decide) (by decide) (by decide)) (c 81 (by decide) (by decide) (by decide) (by decide) (by decide) (by decide)) (c 82 (by decide) (by decide) (by decide) (by decide) (by decide) (by decide))
  · exact pWord_c hW (fun w hw => c _ (by omega) (by omega) (by omega) (by omega) (by omega) (by omega))
  · exact pTold_c hO (c 1 (by decide) (by decide) (by decide) (by decide) (by decide) (by decide)) (c 2 (by decide) (by decide) (by decide) (by decide) (by decide) (by decide)) (c 3 (by decide) (by decide) (by decide) (by decide) (by decide) (by decide)) (c 4 (by decide) (by decide) (by decide) (by decide) (by decide) (by decide)) (fun y _ _ => k6 y (by omega))
  · exact pA_c hN (c 5 (by decide) (by decide) (by decide) (by decide) (by decide) (by decide)) (c 6 (by decide) (by decide) (by decide) (by decide) (by decide) (by decide)) (c 7 (by decide) (by decide) (by decide) (by decide) (by decide) (by decide)) (c 8 (by decide) (by decide) (by decide) (by decide) (by decide) (by decide)) (fun y _ _ => k6 y (by omega)) (fun y _ => k6 _ (by omega))
  · exact pPast_c hP (by rw [c 19 (by decide) (by decide) (by decide) (by decide) (by decide) (by decide)]) (by rw [c 19 (by decide) (by decide) (by decide) (by decide) (by decide) (by decide)]) k3 (fun x _ _ => c x (by omega) (by omega) (by omega) (by omega) (by omega) (by omega)) (fun y _ _ => k6 y (by omega)) (fun y _ _ => k6 y (by omega))
  · exact pKept_c hK (c 62 (by decide) (by decide) (by decide) (by decide) (by decide) (by decide)) (c 75 (by decide) (by decide) (by decide) (by decide) (by decide) (by decide)) (fun x _ _ => c x (by omega) (by omega) (by omega) (by omega) (by omega) (by omega)) (fun y _ _ => k6 y (by omega)) (fun y _ _ => k6 y (by omega))
end Trn
/-- a call of the class and of the Model answer alike -/
def Alk (F : jx_F) (lv c m : Nat) (as : List Value) (I : Nat → Nat → Int32) (J : Nat → Nat → Int64) : Prop :=
  ∃ (y : Int32) (I1 I2 : Nat → Nat → Int32) (J1 : Nat → Nat → Int64), rn F (lv + 10) c (.ref 0 :: as) (HH I J) = some (some (.int y), HH I1 J1) ∧ rn F (lv + 10) m (.ref 73 :: as) (HH I1 J1) = some (some (.int y), HH I2 J1) ∧ Inv I2 J1
