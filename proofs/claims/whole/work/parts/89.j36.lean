/-! ===== behind the constructors ===== -/
theorem n_Law_0 {F : jx_F} {lv : Nat} {h : jx_H} {f0 : Nat} : ev F lv jm_Law_law 0 [.retAddr f0, jx_junk, jx_junk, jx_junk] [] h = ev F lv jm_Law_law 3 [.retAddr f0, jx_junk, jx_junk, jx_junk] [.ref h.length] (h ++ [i_new5]) := ev_s rfl rfl rfl rfl
theorem n_Law_8 {F : jx_F} {lv : Nat} {h : jx_H} {f0 r1 : Nat} : ev F lv jm_Law_law 8 [.retAddr f0, .ref r1, jx_junk, jx_junk] [] h = ev F lv jm_Law_law 11 [.retAddr f0, .ref r1, jx_junk, jx_junk] [.ref h.length] (h ++ [i_new6]) := ev_s rfl rfl rfl rfl
theorem shpR_re {h : jx_H} {a : Nat} {e : jx_C} {c : lay_C} (hs : shpR e c = true) (hf : ∀ (t n : Nat) (f : Nat → Option Nat), e = .inl (t, n, .inr (.inr f)) → lay_f a = f) : lay_re (rdI h) (rdJ h) a c = e := by
  obtain ⟨kd, n, l⟩ := c
  unfold shpR at hs
  split at hs
  · rename_i t m f
    simp only [Bool.and_eq_true] at hs
    obtain ⟨⟨h1, h2⟩, h3⟩ := hs
    have e1 : t = kd := Nat.eq_of_beq_eq_true h1
    have e2 : m = n := Nat.eq_of_beq_eq_true h2
    subst e1; subst e2
    have e3 := hf _ _ _ rfl
    unfold jx_rs at h3
    rcases Bool.or_eq_true_iff.mp h3 with q | q
    · cases Nat.eq_of_beq_eq_true q
      show Sum.inl (10, m, Sum.inr (Sum.inr (lay_f a))) = _
      rw [e3]
    · cases Nat.eq_of_beq_eq_true q
      show Sum.inl (12, m, Sum.inr (Sum.inr (lay_f a))) = _
      rw [e3]
  · cases hs
theorem re_all {h : jx_H} (hl : h.length = 95) (hk : lay.length = 95) (hs : (h.zip lay).all (fun q => shp q.1 q.2 || shpR q.1 q.2) = true) (hf : ∀ (a t n : Nat) (f : Nat → Option Nat), h[a]? = some (.inl (t, n, .inr (.inr f))) → lay_f a = f) : HH (rdI h) (rdJ h) = h := by
  apply List.ext_getElem?
  intro a
  by_cases ha : a < 95
  · have h1 : a < h.length := by omega
    have h2 : a < lay.length := by omega
    have e1 := List.getElem?_eq_getElem h1
    have e2 := List.getElem?_eq_getElem h2
    rw [HH_at e2, e1]
    have hm : (h[a], lay[a]) ∈ h.zip lay := List.mem_of_getElem? (i := a) (List.getElem?_zip_eq_some.mpr ⟨e1, e2⟩)
    have hq := List.all_eq_true.mp hs _ hm
    rcases Bool.or_eq_true_iff.mp hq with q | q
    · exact congrArg some (shp_re e1 q)
    · exact congrArg some (shpR_re q (fun t n f e => hf a t n f (by rw [e1, e])))
  · have h3 : (HH (rdI h) (rdJ h)).length = 95 := by unfold HH; rw [List.length_mapIdx]; exact hk
    rw [List.getElem?_eq_none (by omega), List.getElem?_eq_none (by omega)]
theorem i_eq : HH (rdI i_h2) (rdJ i_h2) = i_h2 := by
  refine re_all i_len.2.1 i_len.2.2 i_shp ?_
  intro a t n f he
  funext j
  rw [lay_e]
  unfold lay_g
  rw [he]
theorem i_rcv1 {F : jx_F} : jx_rcv F [i_new5] 5 [.ref 0] = true := rfl
theorem i_at {h : jx_H} {e : jx_C} : (h ++ [e])[h.length]? = some e := by simp
theorem i_rcv2 {F : jx_F} {h : jx_H} (hl : h.length = 73) : jx_rcv F (h ++ [i_new6]) 6 [.ref 73] = true := by
  have e : (h ++ [i_new6])[73]? = some i_new6 := by rw [← hl]; exact i_at
  unfold jx_rcv
  simp only [e]
  rfl
/-! a check, and what it says -/
def cW (I : Nat → Nat → Int32) (a n : Nat) : Bool := decide (I a 3 = nI n) && (List.range (2 * n)).all fun j => (List.range 5).any (fun k => decide (I (a + 1) j = nI k)) && (List.range 7).any (fun b => decide (I (a + 2) j = nI b)) && (List.range (2 * n)).any (fun o => decide (I (a + 3) j = nI o))
def cE (I : Nat → Nat → Int32) (a b n : Nat) : Bool := (List.range n).all fun j => decide (I 74 (b + j) = I a j)
section Chk
variable {I : Nat → Nat → Int32} {J : Nat → Nat → Int64} {a b n : Nat}
theorem cW_ok (h : cW I a n = true) (hn : 1 ≤ n ∧ n ≤ 4) : Wf I a n := by
  unfold cW at h
  simp only [Bool.and_eq_true, List.all_eq_true, List.any_eq_true, List.mem_range, decide_eq_true_eq] at h
  obtain ⟨h0, h1⟩ := h
  refine ⟨⟨h0, hn⟩, fun j hj => ?_, fun j hj => ?_, fun j hj => ?_⟩
  · obtain ⟨⟨⟨k, hk, e⟩, _⟩, _⟩ := h1 j hj
    exact ⟨k, by omega, e⟩
  · obtain ⟨⟨_, k, hk, e⟩, _⟩ := h1 j hj
    exact ⟨k, by omega, e⟩
  · obtain ⟨_, k, hk, e⟩ := h1 j hj
    exact ⟨k, by omega, e⟩
theorem cE_ok (h : cE I a b n = true) {j : Nat} (hj : j < n) : I 74 (b + j) = I a j := of_decide_eq_true (List.all_eq_true.mp h j (List.mem_range.mpr hj))
def cS (I : Nat → Nat → Int32) : Bool := (List.range 3).all fun s => decide (I (67 + 2 * s) 1 = -1) && decide (I (67 + 2 * s) 2 = 0) && decide (I 81 s = -1)
def cD (I : Nat → Nat → Int32) : Bool := (List.range 8).all fun w => (List.range (wdN w)).all fun i => decide (I (84 + w) i = wdL w i)
def cZ (I : Nat → Nat → Int32) : Bool := decide (I 13 2 = 0) && decide (I 73 4 = 0) && decide (I 63 2 = 0) && decide (I 73 5 = 0) && decide (I 1 4 = 0) && decide (I 74 43 = nI 2) && decide (I 74 42 = 0) && decide (I 74 17 = nI 2) && decide (I 74 16 = 0) && decide (I 5 4 = 0) && decide (I 19 1 = 0) && decide (I 19 2 = 0) && decide (I 73 1 = 0) && decide (I 62 0 = 0) && decide (I 62 1 = 0) && decide (I 75 0 = 0) && decide (I 75 1 = 0)
theorem c_inv (h1 : cS I = true) (h2 : cD I = true) (h3 : cZ I = true) (w1 : cW I 1 2 = true) (w5 : cW I 5 2 = true) (e2 : cE I 2 44 4 = true) (e3 : cE I 3 26 4 = true) (e4 : cE I 4 34 4 = true) (e6 : cE I 6 18 4 = true) (e7 : cE I 7 0 4 = true) (e8 : cE I 8 8 4 = true) : Inv I J := by
  unfold cZ at h3
  simp only [Bool.and_eq_true, decide_eq_true_eq] at h3
  obtain ⟨⟨⟨⟨⟨⟨⟨⟨⟨⟨⟨⟨⟨⟨⟨⟨z1, z2⟩, z3⟩, z4⟩, z5⟩, z6⟩, z7⟩, z8⟩, z9⟩, z10⟩, z11⟩, z12⟩, z13⟩, z14⟩, z15⟩, z16⟩, z17⟩ := h3
  have hs : ∀ s, s < 3 → pSht I J s := fun s hs => by
    have := List.all_eq_true.mp h1 s (List.mem_range.mpr hs)
    simp only [Bool.and_eq_true, decide_eq_true_eq] at this
    exact Or.inl ⟨this.1.1, this.1.2, this.2⟩
  refine ⟨⟨0, by decide, z1, z2, fun i hi => by omega⟩, ⟨0, by decide, z3, z4, fun i hi => by omega⟩, ⟨hs 0 (by decide), hs 1 (by decide), hs 2 (by decide)⟩, ?_, ?_, 2, ⟨⟨cW_ok w5 (by decide), by decide, z8, fun j hj => cE_ok e6 hj, fun j hj => cE_ok e7 hj, fun j hj => ?_, ?_⟩, 0, by decide, z10⟩, ⟨0, 0, by decide, by decide, z11, z12, z13, fun k hk => by omega⟩, ?_⟩
  · intro w hw i hi
    exact of_decide_eq_true (List.all_eq_true.mp (List.all_eq_true.mp h2 w (List.mem_range.mpr hw)) i (List.mem_range.mpr hi))
  · exact ⟨2, cW_ok w1 (by decide), z5, z6, z7, fun j hj => cE_ok e2 hj, fun j hj => cE_ok e3 hj, fun j hj => cE_ok e4 hj⟩
  · have := cE_ok e8 hj
    rw [show 0 + 8 + j = 8 + j by omega]; exact this
  · show I 74 16 = _
    rw [z9, z10]
  · intro k hk
    have q : k = 0 ∨ k = 1 := by omega
    rcases q with rfl | rfl
    · exact ⟨by rw [z14, z16], Or.inl z14⟩
    · exact ⟨by rw [z15, z17], Or.inl z15⟩
end Chk
theorem k_all (I : Nat → Nat → Int32) (J : Nat → Nat → Int64) (h : (cS I && cD I && cZ I && cW I 1 2 && cW I 5 2 && cE I 2 44 4 && cE I 3 26 4 && cE I 4 34 4 && cE I 6 18 4 && cE I 7 0 4 && cE I 8 8 4) = true) : Inv I J := by
  simp only [Bool.and_eq_true] at h
  obtain ⟨⟨⟨⟨⟨⟨⟨⟨⟨⟨a1, a2⟩, a3⟩, a4⟩, a5⟩, a6⟩, a7⟩, a8⟩, a9⟩, a10⟩, a11⟩ := h
  exact c_inv a1 a2 a3 a4 a5 a6 a7 a8 a9 a10 a11
theorem k_ok : (cS (rdI i_h2) && cD (rdI i_h2) && cZ (rdI i_h2) && cW (rdI i_h2) 1 2 && cW (rdI i_h2) 5 2 && cE (rdI i_h2) 2 44 4 && cE (rdI i_h2) 3 26 4 && cE (rdI i_h2) 4 34 4 && cE (rdI i_h2) 6 18 4 && cE (rdI i_h2) 7 0 4 && cE (rdI i_h2) 8 8 4) = true := by decide +kernel
theorem i_inv : Inv (rdI i_h2) (rdJ i_h2) := k_all _ _ k_ok
