/-! ===== the Model: reads ===== -/
section Cng
variable {I I' : Nat → Nat → Int32} {T T' : Nat → Int32} {n s e : Nat}
theorem eqC_c {W : Nat → Int32} : ∀ (c i : Nat), (∀ j, i ≤ j → j < i + c → T (s + j) = T' (s + j)) → eqC T s W c i = eqC T' s W c i := by
  intro c
  induction c with
  | zero => intro i _; rfl
  | succ c ih =>
    intro i h
    unfold eqC
    rw [h i (by omega) (by omega), ih (i + 1) (fun j h1 h2 => h j (by omega) (by omega))]
theorem tokW_c {w : Nat} (h : ∀ j, s ≤ j → j < e → T j = T' j) : tokW T s e w = tokW T' s e w := by
  unfold tokW
  by_cases q : e - s = wdN w
  · rw [if_pos q, if_pos q]
    exact eqC_c _ _ (fun j h1 h2 => h _ (by omega) (by omega))
  · rw [if_neg q, if_neg q]
theorem wdF_c (h : ∀ j, s ≤ j → j < e → T j = T' j) : ∀ (c w : Nat), wdF T s e c w = wdF T' s e c w := by
  intro c
  induction c with
  | zero => intro w; rfl
  | succ c ih => intro w; unfold wdF; rw [tokW_c h, ih]
theorem numN_c {lo hi : Nat} (h : ∀ j, j < n → T j = T' j) (he : e ≤ n) : numN T n s e lo hi = numN T' n s e lo hi := by
  unfold numN
  by_cases q : n ≤ s
  · rw [if_pos q, if_pos q]
  · rw [if_neg q, if_neg q, h s (by omega)]
    by_cases q2 : e = s + 2
    · simp only [if_pos q2]; rw [h (s + 1) (by omega)]
    · simp only [if_neg q2]
theorem clF_c {men : Nat} (h : ∀ j, j < n → I 14 j = I' 14 j) (he : e ≤ n) : clF I n men e = clF I' n men e := by
  have h1 := nx_e (I := I') he
  have h2 := nx_e (I := I') h1.2
  have h3 := nx_e (I := I') h2.2
  have s1 := nxS_c h he
  have e1 := nxE_c h he
  have s2 := nxS_c h h1.2
  have e2 := nxE_c h h1.2
  have s3 := nxS_c h h2.2
  have e3 := nxE_c h h2.2
  unfold clF
  rw [s1, e1, s2, e2, s3, e3, wdF_c (fun j a b => h j (by omega))]
  simp only [numN_c h h2.2, numN_c h h3.2]
end Cng
/-- the told army that is read -/
def td (C X : Nat → Nat → Int32) (men : Nat) : Prop := Wf C 15 men ∧ C 15 4 = 0 ∧ X 74 43 = nI men ∧ X 74 42 = 0 ∧ (∀ j, j < 2 * men → X 74 (44 + j) = C 16 j) ∧ (∀ j, j < 2 * men → X 74 (26 + j) = C 17 j) ∧ (∀ j, j < 2 * men → X 74 (34 + j) = C 18 j)
section Mtx
variable {F : jx_F} {lv : Nat} {X X' C C' : Nat → Nat → Int32} {J : Nat → Nat → Int64} {s e n men : Nat}
theorem td_c (h : td C X men) (h15 : C' 15 = C 15) (h16 : C' 16 = C 16) (h17 : C' 17 = C 17) (h18 : C' 18 = C 18) (hx : X' 74 = X 74) : td C' X' men := by
  refine ⟨cp_wf h.1 (cp_same h15 h16 h17 h18), by rw [h15]; exact h.2.1, ?_⟩
  rw [hx, h16, h17, h18]
  exact h.2.2
theorem td_act {a : Nat × Nat × Nat} (h : td C X men) (ha : actOk men a) (hx : X' 74 = mact X a 74) : td (actO C (some a)) X' (menA men a) := by
  obtain ⟨hw, hd, h43, h42, hk, hb, hm⟩ := h
  have h4 := hw.mn.2
  obtain ⟨k, x, b⟩ := a
  obtain ⟨a1, a2, a3, a4, a5⟩ := ha
  dsimp only at a1 a2 a3 a4 a5
  unfold mact at hx
  unfold actO menA
  dsimp only at hx ⊢
  by_cases q0 : k = 0
  · have hv := a2 q0
    rw [if_pos q0] at hx ⊢
    rw [if_pos q0]
    have b15 : begI C 15 x 15 = upd (upd (C 15) 3 (nI x)) 4 0 := by unfold begI begK; rw [upTo_ne (by decide), upTo_ne (by decide), upTo_ne (by decide), up2_eq, up2_eq]
    have b16 : ∀ j, j < 2 * x → begI C 15 x 16 j = 0 := fun j hj => by unfold begI begK; rw [upTo_ne (by decide), upTo_ne (by decide), upTo_lt hj]
    have b17 : ∀ j, j < 2 * x → begI C 15 x 17 j = 3 := fun j hj => by unfold begI begK; rw [upTo_ne (by decide), upTo_lt hj]
    have b18 : ∀ j, j < 2 * x → begI C 15 x 18 j = begG x j := fun j hj => by unfold begI begK; rw [upTo_lt hj]
    unfold td
    rw [hx]
    unfold mlay
    refine ⟨⟨⟨by rw [b15, pk_un (by decide), pk_us], hv⟩, ?_, ?_, ?_⟩, by rw [b15, pk_us], ?_, ?_, ?_, ?_, ?_⟩
    · intro j hj; exact ⟨0, by decide, b16 j hj⟩
    · intro j hj; exact ⟨3, by decide, b17 j hj⟩
    · intro j hj
      refine ⟨if x ≤ j then j - x else j + x, ?_, ?_⟩
      · split <;> omega
      · show begI C 15 x 18 j = _
        rw [b18 j hj]
        unfold begG
        by_cases w : x ≤ j
        · rw [if_pos w, if_pos w, pk_sub w]
        · rw [if_neg w, if_neg w, nI_add]
    · rw [upF_out (by omega), upF_out (by omega), up2_eq, pk_us]
    · rw [upF_out (by omega), upF_out (by omega), up2_eq, pk_un (by decide), show (42 : Nat) = 26 + 16 from rfl, upF_in (by decide)]
    · intro j hj
      rw [upF_out (by omega), upF_out (by omega), up2_eq, pk_un (by omega), show 44 + j = 26 + (18 + j) by omega, upF_in (by omega), b16 j hj]
    · intro j hj
      rw [upF_out (by omega), upF_in hj, b17 j hj]
    · intro j hj
      rw [upF_in hj, b18 j hj]
  · have hm' := a3 q0
    rw [if_neg q0] at hx ⊢
    rw [if_neg q0]
    by_cases q5 : k ≤ 5
    · rw [if_pos q5] at hx ⊢
      unfold td
      rw [hx]
      refine ⟨⟨⟨by rw [up2_ne (by decide)]; exact hw.mn.1, h4⟩, ?_, ?_, ?_⟩, by rw [up2_ne (by decide)]; exact hd, by rw [up2_eq, pk_un (by omega)]; exact h43, by rw [up2_eq, pk_un (by omega)]; exact h42, ?_, ?_, ?_⟩
      · intro j hj
        show ∃ k', k' ≤ 4 ∧ up2 C 16 x (nI (k - 1)) 16 j = nI k'
        rw [up2_eq]
        by_cases w : j = x
        · subst w; exact ⟨k - 1, by omega, pk_us⟩
        · rw [pk_un w]; exact hw.kd j hj
      · intro j hj; rw [up2_ne (by decide)]; exact hw.bt j hj
      · intro j hj; rw [up2_ne (by decide)]; exact hw.md j hj
      · intro j hj
        rw [up2_eq, up2_eq]
        by_cases w : j = x
        · subst w; rw [pk_us, pk_us]
        · rw [pk_un (by omega), pk_un w]; exact hk j hj
      · intro j hj; rw [up2_eq, pk_un (by omega), up2_ne (by decide)]; exact hb j hj
      · intro j hj; rw [up2_eq, pk_un (by omega), up2_ne (by decide)]; exact hm j hj
    · rw [if_neg q5] at hx ⊢
      by_cases q6 : k = 6
      · have hb6 := a4 q6
        rw [if_pos q6] at hx ⊢
        unfold td
        rw [hx]
        refine ⟨⟨⟨by rw [up2_ne (by decide)]; exact hw.mn.1, h4⟩, ?_, ?_, ?_⟩, by rw [up2_ne (by decide)]; exact hd, by rw [up2_eq, pk_un (by omega)]; exact h43, by rw [up2_eq, pk_un (by omega)]; exact h42, ?_, ?_, ?_⟩
        · intro j hj; rw [up2_ne (by decide)]; exact hw.kd j hj
        · intro j hj
          show ∃ k', k' ≤ 6 ∧ up2 C 17 x (nI b) 17 j = nI k'
          rw [up2_eq]
          by_cases w : j = x
          · subst w; exact ⟨b, hb6, pk_us⟩
          · rw [pk_un w]; exact hw.bt j hj
        · intro j hj; rw [up2_ne (by decide)]; exact hw.md j hj
        · intro j hj; rw [up2_eq, pk_un (by omega), up2_ne (by decide)]; exact hk j hj
        · intro j hj
          rw [up2_eq, up2_eq]
          by_cases w : j = x
          · subst w; rw [pk_us, pk_us]
          · rw [pk_un (by omega), pk_un w]; exact hb j hj
        · intro j hj; rw [up2_eq, pk_un (by omega), up2_ne (by decide)]; exact hm j hj
      · have hb7 := a5 (by omega)
        rw [if_neg q6] at hx ⊢
        unfold td
        rw [hx]
        refine ⟨⟨⟨by rw [up2_ne (by decide)]; exact hw.mn.1, h4⟩, ?_, ?_, ?_⟩, by rw [up2_ne (by decide)]; exact hd, by rw [up2_eq, pk_un (by omega)]; exact h43, by rw [up2_eq, pk_un (by omega)]; exact h42, ?_, ?_, ?_⟩
        · intro j hj; rw [up2_ne (by decide)]; exact hw.kd j hj
        · intro j hj; rw [up2_ne (by decide)]; exact hw.bt j hj
        · intro j hj
          show ∃ k', k' < 2 * men ∧ up2 C 18 x (nI b) 18 j = nI k'
          rw [up2_eq]
          by_cases w : j = x
          · subst w; exact ⟨b, hb7, pk_us⟩
          · rw [pk_un w]; exact hw.md j hj
        · intro j hj; rw [up2_eq, pk_un (by omega), up2_ne (by decide)]; exact hk j hj
        · intro j hj; rw [up2_eq, pk_un (by omega), up2_ne (by decide)]; exact hb j hj
        · intro j hj
          rw [up2_eq, up2_eq]
          by_cases w : j = x
          · subst w; rw [pk_us, pk_us]
          · rw [pk_un (by omega), pk_un w]; exact hm j hj
theorem mact_out {a : Nat × Nat × Nat} {y : Nat} (h4 : men ≤ 4) (ha : actOk men a) (hy : y < 26 ∨ 52 ≤ y) : mact X a 74 y = X 74 y := by
  obtain ⟨a1, a2, a3, a4, a5⟩ := ha
  unfold mact
  split
  · rename_i q
    have := a2 q
    unfold mlay
    rw [upF_out (by omega), upF_out (by omega), up2_eq, pk_un (by omega), upF_out (by omega)]
  · rename_i q
    have := a3 q
    split
    · rw [up2_eq, pk_un (by omega)]
    · split
      · rw [up2_eq, pk_un (by omega)]
      · rw [up2_eq, pk_un (by omega)]
theorem mi_f {j : Nat} {v : Int32} (h12 : j ≠ 12) (h13 : j ≠ 13) : up2 (MI X s e) 73 j v = MI (up2 X 73 j v) s e := by
  funext x
  by_cases hx : x = 73
  · subst hx
    funext y
    rw [up2_eq]
    by_cases h4 : y = 12
    · subst h4; rw [pk_un (fun q => h12 q.symm), mi_12, mi_12]
    · by_cases h5 : y = 13
      · subst h5; rw [pk_un (fun q => h13 q.symm), mi_13, mi_13]
      · rw [mi_j h4 h5, up2_eq]
        by_cases h3 : y = j
        · subst h3; rw [pk_us, pk_us]
        · rw [pk_un h3, pk_un h3, mi_j h4 h5]
  · rw [up2_ne hx, mi_ne hx, mi_ne hx, up2_ne hx]
/-- what the reading leaves -/
def RF (X X' : Nat → Nat → Int32) (dv : Int32) : Prop := (∀ x, x ≠ 73 → x ≠ 74 → x ≠ 83 → X' x = X x) ∧ (∀ j, j ≠ 14 → j ≠ 15 → X' 73 j = X 73 j) ∧ (dv = 0 → X' 74 = X 74) ∧ (∀ y, y < 26 ∨ 52 ≤ y → X' 74 y = X 74 y)
theorem rf_refl {dv : Int32} : RF X X dv := ⟨fun _ _ _ _ => rfl, fun _ _ _ => rfl, fun _ => rfl, fun _ _ => rfl⟩
theorem rf_trans {X'' : Nat → Nat → Int32} {dv : Int32} (h : RF X X' dv) (g : RF X' X'' dv) : RF X X'' dv :=
  ⟨fun x a b c => (g.1 x a b c).trans (h.1 x a b c), fun j a b => (g.2.1 j a b).trans (h.2.1 j a b), fun d => (g.2.2.1 d).trans (h.2.2.1 d), fun y hy => (g.2.2.2 y hy).trans (h.2.2.2 y hy)⟩
theorem rf_rn {dv : Int32} (h : RN X X') : RF X X' dv :=
  ⟨fun x _ _ c => h x c, fun j _ _ => by rw [h 73 (by decide)], fun _ => h 74 (by decide), fun y _ => by rw [h 74 (by decide)]⟩
theorem rf_rc {dv : Int32} {a : Nat × Nat × Nat} (h4 : men ≤ 4) (ha : actOk men a) (h : RC X X' dv men a) : RF X X' dv := by
  obtain ⟨r1, r2, r3, r4⟩ := h
  refine ⟨r1, fun j a _ => r2 j a, fun d => by rw [r4, if_pos d], fun y hy => ?_⟩
  rw [r4]
  by_cases d : dv = 0
  · rw [if_pos d]
  · rw [if_neg d]; exact mact_out h4 ha hy
theorem rf_15 {dv v : Int32} : RF X (up2 X 73 15 v) dv :=
  ⟨fun x a _ _ => up2_ne a, fun j _ b => by rw [up2_eq, pk_un b], fun _ => up2_ne (by decide), fun y _ => by rw [up2_ne (by decide)]⟩
end Mtx
