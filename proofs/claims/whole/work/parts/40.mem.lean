/-! ===== the heap behind the constructors: a fixed layout; I the ints (cell, place), J the longs ===== -/
abbrev lay_C : Type := Nat × Nat × List (Option Nat)
def lay : List lay_C := [(105, 9, [some 1, some 5, some 9, some 13, some 19, some 53, some 62, some 63, some 66]), (100, 5, [some 2, some 3, some 4, none, none]), (0, 8, []), (0, 8, []), (0, 8, []), (100, 5, [some 6, some 7, some 8, none, none]), (0, 8, []), (0, 8, []), (0, 8, []), (100, 5, [some 10, some 11, some 12, none, none]), (0, 8, []), (0, 8, []), (0, 8, []), (104, 6, [some 14, some 15, none, none, none, none]), (1, 200, []), (100, 5, [some 16, some 17, some 18, none, none]), (0, 8, []), (0, 8, []), (0, 8, []), (101, 3, [some 20, none, none]), (10, 8, [some 21, some 25, some 29, some 33, some 37, some 41, some 45, some 49]), (100, 5, [some 22, some 23, some 24, none, none]), (0, 8, []), (0, 8, []), (0, 8, []), (100, 5, [some 26, some 27, some 28, none, none]), (0, 8, []), (0, 8, []), (0, 8, []), (100, 5, [some 30, some 31, some 32, none, none]), (0, 8, []), (0, 8, []), (0, 8, []), (100, 5, [some 34, some 35, some 36, none, none]), (0, 8, []), (0, 8, []), (0, 8, []), (100, 5, [some 38, some 39, some 40, none, none]), (0, 8, []), (0, 8, []), (0, 8, []), (100, 5, [some 42, some 43, some 44, none, none]), (0, 8, []), (0, 8, []), (0, 8, []), (100, 5, [some 46, some 47, some 48, none, none]), (0, 8, []), (0, 8, []), (0, 8, []), (100, 5, [some 50, some 51, some 52, none, none]), (0, 8, []), (0, 8, []), (0, 8, []), (10, 2, [some 54, some 58]), (100, 5, [some 55, some 56, some 57, none, none]), (0, 8, []), (0, 8, []), (0, 8, []), (100, 5, [some 59, some 60, some 61, none, none]), (0, 8, []), (0, 8, []), (0, 8, []), (2, 2, []), (103, 3, [some 64, some 65, none]), (0, 6, []), (0, 6, []), (12, 3, [some 67, some 69, some 71]), (102, 3, [some 68, none, none]), (3, 10, []), (102, 3, [some 70, none, none]), (3, 10, []), (102, 3, [some 72, none, none]), (3, 10, []), (106, 29, [some 74, none, some 75, some 76, none, none, some 77, some 78, some 79, some 80, some 81, some 82, none, none, none, none, none, some 83, some 84, some 85, some 86, some 87, some 88, some 89, some 90, some 91, some 92, some 93, some 94]), (0, 239, []), (2, 2, []), (0, 200, []), (0, 6, []), (0, 6, []), (0, 6, []), (0, 3, []), (0, 3, []), (0, 30, []), (0, 2, []), (0, 4, []), (0, 5, []), (0, 6, []), (0, 6, []), (0, 8, []), (0, 7, []), (0, 7, []), (0, 6, []), (0, 8, []), (0, 4, []), (0, 4, [])]
noncomputable def lay_re (I : Nat → Nat → Int32) (J : Nat → Nat → Int64) (k : Nat) (c : lay_C) : jx_C :=
  bif Nat.beq c.1 3 then .inl (3, c.2.1, .inr (.inl (J k)))
  else bif Nat.blt c.1 10 then .inl (c.1, c.2.1, .inl (I k))
  else bif Nat.blt c.1 100 then .inl (c.1, c.2.1, .inr (.inr (lay_f k)))
  else .inr (c.1 - 100, c.2.2.mapIdx fun j o => match o with
    | some r => .ref r
    | none => .int (I k j))
noncomputable def HH (I : Nat → Nat → Int32) (J : Nat → Nat → Int64) : jx_H := lay.mapIdx fun k c => lay_re I J k c
/-- one int anew -/
def up2 (I : Nat → Nat → Int32) (a j : Nat) (x : Int32) : Nat → Nat → Int32 := fun b => bif Nat.beq b a then upd (I b) j x else I b
/-- a row of ints anew -/
def up1 (I : Nat → Nat → Int32) (a : Nat) (f : Nat → Int32) : Nat → Nat → Int32 := fun b => bif Nat.beq b a then f else I b
def up2L (J : Nat → Nat → Int64) (a j : Nat) (x : Int64) : Nat → Nat → Int64 := fun b => bif Nat.beq b a then vp_updL (J b) j x else J b
def up1L (J : Nat → Nat → Int64) (a : Nat) (f : Nat → Int64) : Nat → Nat → Int64 := fun b => bif Nat.beq b a then f else J b
theorem beq_ne {a b : Nat} (h : a ≠ b) : Nat.beq a b = false := by
  cases hb : Nat.beq a b with
  | false => rfl
  | true => exact absurd (Nat.eq_of_beq_eq_true hb) h
theorem beq_rf (a : Nat) : Nat.beq a a = true := by simp
theorem up2_ne {I : Nat → Nat → Int32} {a j b : Nat} {x : Int32} (h : b ≠ a) : up2 I a j x b = I b := by unfold up2; rw [beq_ne h]; rfl
theorem up2_eq {I : Nat → Nat → Int32} {a j : Nat} {x : Int32} : up2 I a j x a = upd (I a) j x := by unfold up2; rw [beq_rf]; rfl
theorem up1_ne {I : Nat → Nat → Int32} {a b : Nat} {f : Nat → Int32} (h : b ≠ a) : up1 I a f b = I b := by unfold up1; rw [beq_ne h]; rfl
theorem up1_eq {I : Nat → Nat → Int32} {a : Nat} {f : Nat → Int32} : up1 I a f a = f := by unfold up1; rw [beq_rf]; rfl
theorem up2L_ne {I : Nat → Nat → Int64} {a j b : Nat} {x : Int64} (h : b ≠ a) : up2L I a j x b = I b := by unfold up2L; rw [beq_ne h]; rfl
theorem up2L_eq {I : Nat → Nat → Int64} {a j : Nat} {x : Int64} : up2L I a j x a = vp_updL (I a) j x := by unfold up2L; rw [beq_rf]; rfl
theorem up1L_ne {I : Nat → Nat → Int64} {a b : Nat} {f : Nat → Int64} (h : b ≠ a) : up1L I a f b = I b := by unfold up1L; rw [beq_ne h]; rfl
theorem up1L_eq {I : Nat → Nat → Int64} {a : Nat} {f : Nat → Int64} : up1L I a f a = f := by unfold up1L; rw [beq_rf]; rfl
section Mem
variable {I : Nat → Nat → Int32} {J : Nat → Nat → Int64} {a : Nat} {α : Type}
theorem HH_at {c : lay_C} (h : lay[a]? = some c) : (HH I J)[a]? = some (lay_re I J a c) := by unfold HH; rw [List.getElem?_mapIdx, h]; rfl
theorem lay_re_I {I' : Nat → Nat → Int32} {J' : Nat → Nat → Int64} {b : Nat} {c : lay_C} (h : I' b = I b) (hJ : J' b = J b) : lay_re I' J' b c = lay_re I J b c := by unfold lay_re; rw [h, hJ]
theorem HH_set {I' : Nat → Nat → Int32} {J' : Nat → Nat → Int64} {c : lay_C} (hc : lay[a]? = some c) (h : ∀ b, b ≠ a → I' b = I b) (hJ : ∀ b, b ≠ a → J' b = J b) : (HH I J).set a (lay_re I' J' a c) = HH I' J' := by
  apply List.ext_getElem?
  intro b
  rw [List.getElem?_set]
  by_cases e : a = b
  · subst e
    have hl : a < (HH I J).length := by unfold HH; rw [List.length_mapIdx]; exact (List.getElem?_eq_some_iff.mp hc).1
    rw [if_pos rfl, if_pos hl, HH_at hc]
  · rw [if_neg e]
    unfold HH
    rw [List.getElem?_mapIdx, List.getElem?_mapIdx]
    cases lay[b]? with
    | none => rfl
    | some c' => exact congrArg some (lay_re_I (h b (fun q => e q.symm)) (hJ b (fun q => e q.symm))).symm
theorem re_arr {t n : Nat} {l : List (Option Nat)} (ht : t < 10) (h3 : t ≠ 3) : lay_re I J a (t, n, l) = .inl (t, n, .inl (I a)) := by
  unfold lay_re
  rw [show Nat.beq t 3 = false from beq_ne h3, show Nat.blt t 10 = true from Nat.ble_eq_true_of_le ht]; rfl
theorem re_arrL {n : Nat} {l : List (Option Nat)} : lay_re I J a (3, n, l) = .inl (3, n, .inr (.inl (J a))) := rfl
theorem re_obj {ci n : Nat} {l : List (Option Nat)} : lay_re I J a (100 + ci, n, l) = .inr (ci, l.mapIdx fun j o => match o with
    | some r => .ref r
    | none => .int (I a j)) := by
  unfold lay_re
  rw [show Nat.beq (100 + ci) 3 = false from beq_ne (by omega)]
  have h1 : Nat.blt (100 + ci) 10 = false := by
    cases hb : Nat.blt (100 + ci) 10 with
    | false => rfl
    | true => have := Nat.le_of_ble_eq_true hb; omega
  have h2 : Nat.blt (100 + ci) 100 = false := by
    cases hb : Nat.blt (100 + ci) 100 with
    | false => rfl
    | true => have := Nat.le_of_ble_eq_true hb; omega
  rw [h1, h2, show 100 + ci - 100 = ci by omega]; rfl
theorem m_gfi {ci j n : Nat} {l : List (Option Nat)} {k : Value → Option α} (hc : lay[a]? = some (100 + ci, n, l)) (hj : l[j]? = some none) : jx_gf (HH I J) a ci j k = k (.int (I a j)) := by
  unfold jx_gf
  rw [HH_at hc, re_obj]
  simp only [beq_rf, cond_true, List.getElem?_mapIdx, hj]
  rfl
theorem m_gfr {ci j n r : Nat} {l : List (Option Nat)} {k : Value → Option α} (hc : lay[a]? = some (100 + ci, n, l)) (hj : l[j]? = some (some r)) : jx_gf (HH I J) a ci j k = k (.ref r) := by
  unfold jx_gf
  rw [HH_at hc, re_obj]
  simp only [beq_rf, cond_true, List.getElem?_mapIdx, hj]
  rfl
theorem m_pf {ci j n : Nat} {l : List (Option Nat)} {x : Int32} {k : jx_H → Option α} (hc : lay[a]? = some (100 + ci, n, l)) (hj : l[j]? = some none) : jx_pf (HH I J) a ci j (.int x) k = k (HH (up2 I a j x) J) := by
  unfold jx_pf
  rw [HH_at hc, re_obj]
  have hjl : j < l.length := (List.getElem?_eq_some_iff.mp hj).1
  have e : (l.mapIdx fun j o => match o with
    | some r => Value.ref r
    | none => Value.int (I a j)).set j (.int x) = l.mapIdx fun j' o => match o with
    | some r => Value.ref r
    | none => Value.int (up2 I a j x a j') := by
    apply List.ext_getElem?
    intro b
    rw [List.getElem?_set, List.getElem?_mapIdx, List.getElem?_mapIdx, List.length_mapIdx, up2_eq]
    by_cases hb : j = b
    · subst hb
      rw [if_pos rfl, if_pos hjl, hj]
      simp [upd]
    · rw [if_neg hb]
      cases l[b]? with
      | none => rfl
      | some o =>
        cases o with
        | some r => rfl
        | none =>
          show some (Value.int (I a b)) = some (Value.int (upd (I a) j x b))
          unfold upd
          rw [if_neg (fun q => hb q.symm)]
  have hlt : Nat.blt j (l.mapIdx fun j o => match o with
    | some r => Value.ref r
    | none => Value.int (I a j)).length = true := Nat.ble_eq_true_of_le (by rw [List.length_mapIdx]; exact hjl)
  simp only [beq_rf, hlt, Bool.and_true, cond_true, e]
  have := HH_set (I := I) (J := J) (I' := up2 I a j x) (J' := J) hc (fun b hb => up2_ne hb) (fun _ _ => rfl)
  rw [re_obj] at this
  rw [this]
theorem m_gi {t n : Nat} {l : List (Option Nat)} {i : Int32} {k : Int32 → Option α} (hc : lay[a]? = some (t, n, l)) (ht : t < 10) (h3 : t ≠ 3) : jx_gi (HH I J) t a i k = jx_at i n (k (I a i.toNatClampNeg)) := by
  unfold jx_gi
  rw [HH_at hc, re_arr ht h3]
  simp only [beq_rf, cond_true]
theorem m_pi {t n : Nat} {l : List (Option Nat)} {i x : Int32} {k : jx_H → Option α} (hc : lay[a]? = some (t, n, l)) (ht : t < 10) (h3 : t ≠ 3) : jx_pi (HH I J) t a i x k = jx_at i n (k (HH (up2 I a i.toNatClampNeg x) J)) := by
  unfold jx_pi
  rw [HH_at hc, re_arr ht h3]
  have := HH_set (I := I) (J := J) (I' := up2 I a i.toNatClampNeg x) (J' := J) hc (fun b hb => up2_ne hb) (fun _ _ => rfl)
  rw [re_arr ht h3, up2_eq] at this
  simp only [beq_rf, cond_true, this]
theorem m_gl {n : Nat} {l : List (Option Nat)} {i : Int32} {k : Int64 → Option α} (hc : lay[a]? = some (3, n, l)) : jx_gl (HH I J) a i k = jx_at i n (k (J a i.toNatClampNeg)) := by
  unfold jx_gl
  rw [HH_at hc, re_arrL]
  rfl
theorem m_pl {n : Nat} {l : List (Option Nat)} {i : Int32} {x : Int64} {k : jx_H → Option α} (hc : lay[a]? = some (3, n, l)) : jx_pl (HH I J) a i x k = jx_at i n (k (HH I (up2L J a i.toNatClampNeg x))) := by
  unfold jx_pl
  rw [HH_at hc, re_arrL]
  have := HH_set (I := I) (J := J) (I' := I) (J' := up2L J a i.toNatClampNeg x) hc (fun _ _ => rfl) (fun b hb => up2L_ne hb)
  rw [re_arrL, up2L_eq] at this
  simp only [this]
  rfl
theorem m_ga {t n : Nat} {l : List (Option Nat)} {i : Int32} {k : Nat → Option α} (hc : lay[a]? = some (t, n, l)) (ht : jx_rs t = true) (hf : (List.range n).all (fun j => decide (lay_f a j = l.getD j none)) = true) : jx_ga (HH I J) a i k = jx_at i n (match l.getD i.toNatClampNeg none with
    | some y => k y
    | none => none) := by
  unfold jx_ga
  rw [HH_at hc]
  have e : lay_re I J a (t, n, l) = .inl (t, n, .inr (.inr (lay_f a))) := by
    unfold jx_rs at ht
    rcases Bool.or_eq_true_iff.mp ht with q | q <;> cases Nat.eq_of_beq_eq_true q <;> rfl
  rw [e]
  simp only [ht, cond_true]
  unfold jx_at
  by_cases w : i < 0 ∨ n ≤ i.toNatClampNeg
  · rw [if_pos w, if_pos w]
  · rw [if_neg w, if_neg w]
    have hj := List.all_eq_true.mp hf i.toNatClampNeg (List.mem_range.mpr (by omega))
    rw [of_decide_eq_true hj]
    cases l.getD i.toNatClampNeg none <;> rfl
theorem m_len {t n : Nat} {l : List (Option Nat)} {k : Int32 → Option α} (hc : lay[a]? = some (t, n, l)) (ht : t < 3) : jx_len (HH I J) a k = k (Int32.ofNat n) := by
  unfold jx_len
  rw [HH_at hc, re_arr (by omega) (by omega)]
  simp only [show Nat.ble t 3 = true from Nat.ble_eq_true_of_le (by omega), Bool.true_or, cond_true]
theorem m_rcv {F : jx_F} {ci n : Nat} {l : List (Option Nat)} {as : List Value} (hc : lay[a]? = some (100 + ci, n, l)) : jx_rcv F (HH I J) ci (.ref a :: as) = true := by
  unfold jx_rcv
  simp only [HH_at hc, re_obj, beq_rf]
theorem m_cpi {b n0 n1 : Nat} {l0 l1 : List (Option Nat)} {n dp sp : Int32} {r : List Value} {k : List Value → jx_H → Option α} (ha : lay[a]? = some (0, n0, l0)) (hb : lay[b]? = some (0, n1, l1)) (hr : jx_catS r ≤ 8) (hq : ¬ sp < 0 ∧ ¬ dp < 0 ∧ ¬ n < 0 ∧ sp.toNatClampNeg + n.toNatClampNeg ≤ n0 ∧ dp.toNatClampNeg + n.toNatClampNeg ≤ n1) :
    jx_cp (HH I J) (.int n :: .int dp :: .ref b :: .int sp :: .ref a :: r) k = k r (HH (up1 I b (va_cpy (I a) (I b) sp.toNatClampNeg dp.toNatClampNeg n.toNatClampNeg)) J) := by
  unfold jx_cp
  simp only [show Nat.ble (jx_catS r) 8 = true from Nat.ble_eq_true_of_le hr, cond_true, HH_at ha, HH_at hb, re_arr (show 0 < 10 by decide) (show 0 ≠ 3 by decide)]
  rw [if_pos ⟨⟨trivial, trivial⟩, hq⟩]
  have := HH_set (I := I) (J := J) (I' := up1 I b (va_cpy (I a) (I b) sp.toNatClampNeg dp.toNatClampNeg n.toNatClampNeg)) (J' := J) hb (fun c hc => up1_ne hc) (fun _ _ => rfl)
  rw [re_arr (by decide) (by decide), up1_eq] at this
  rw [this]
theorem m_cpl {b n0 n1 : Nat} {l0 l1 : List (Option Nat)} {n dp sp : Int32} {r : List Value} {k : List Value → jx_H → Option α} (ha : lay[a]? = some (3, n0, l0)) (hb : lay[b]? = some (3, n1, l1)) (hr : jx_catS r ≤ 8) (hq : ¬ sp < 0 ∧ ¬ dp < 0 ∧ ¬ n < 0 ∧ sp.toNatClampNeg + n.toNatClampNeg ≤ n0 ∧ dp.toNatClampNeg + n.toNatClampNeg ≤ n1) :
    jx_cp (HH I J) (.int n :: .int dp :: .ref b :: .int sp :: .ref a :: r) k = k r (HH I (up1L J b (va_cpy (J a) (J b) sp.toNatClampNeg dp.toNatClampNeg n.toNatClampNeg))) := by
  unfold jx_cp
  simp only [show Nat.ble (jx_catS r) 8 = true from Nat.ble_eq_true_of_le hr, cond_true, HH_at ha, HH_at hb, re_arrL]
  rw [if_pos ⟨⟨trivial, trivial⟩, hq⟩]
  have := HH_set (I := I) (J := J) (I' := I) (J' := up1L J b (va_cpy (J a) (J b) sp.toNatClampNeg dp.toNatClampNeg n.toNatClampNeg)) hb (fun _ _ => rfl) (fun c hc => up1L_ne hc)
  rw [re_arrL, up1L_eq] at this
  rw [this]
/-- an army's cells -/
def Ar (a : Nat) : Prop := lay[a]? = some (100 + 0, 5, [some (a + 1), some (a + 2), some (a + 3), none, none]) ∧ lay[a + 1]? = some (0, 8, []) ∧ lay[a + 2]? = some (0, 8, []) ∧ lay[a + 3]? = some (0, 8, [])
theorem ar_kind (h : Ar a) {k : Value → Option α} : jx_gf (HH I J) a 0 0 k = k (.ref (a + 1)) := m_gfr h.1 rfl
theorem ar_but (h : Ar a) {k : Value → Option α} : jx_gf (HH I J) a 0 1 k = k (.ref (a + 2)) := m_gfr h.1 rfl
theorem ar_mnd (h : Ar a) {k : Value → Option α} : jx_gf (HH I J) a 0 2 k = k (.ref (a + 3)) := m_gfr h.1 rfl
theorem ar_men (h : Ar a) {k : Value → Option α} : jx_gf (HH I J) a 0 3 k = k (.int (I a 3)) := m_gfi h.1 rfl
theorem ar_day (h : Ar a) {k : Value → Option α} : jx_gf (HH I J) a 0 4 k = k (.int (I a 4)) := m_gfi h.1 rfl
theorem ar_pmen (h : Ar a) {x : Int32} {k : jx_H → Option α} : jx_pf (HH I J) a 0 3 (.int x) k = k (HH (up2 I a 3 x) J) := m_pf h.1 rfl
theorem ar_pday (h : Ar a) {x : Int32} {k : jx_H → Option α} : jx_pf (HH I J) a 0 4 (.int x) k = k (HH (up2 I a 4 x) J) := m_pf h.1 rfl
theorem ar_g1 (h : Ar a) {i : Int32} {k : Int32 → Option α} : jx_gi (HH I J) 0 (a + 1) i k = jx_at i 8 (k (I (a + 1) i.toNatClampNeg)) := m_gi h.2.1 (by decide) (by decide)
theorem ar_g2 (h : Ar a) {i : Int32} {k : Int32 → Option α} : jx_gi (HH I J) 0 (a + 2) i k = jx_at i 8 (k (I (a + 2) i.toNatClampNeg)) := m_gi h.2.2.1 (by decide) (by decide)
theorem ar_g3 (h : Ar a) {i : Int32} {k : Int32 → Option α} : jx_gi (HH I J) 0 (a + 3) i k = jx_at i 8 (k (I (a + 3) i.toNatClampNeg)) := m_gi h.2.2.2 (by decide) (by decide)
theorem ar_p1 (h : Ar a) {i x : Int32} {k : jx_H → Option α} : jx_pi (HH I J) 0 (a + 1) i x k = jx_at i 8 (k (HH (up2 I (a + 1) i.toNatClampNeg x) J)) := m_pi h.2.1 (by decide) (by decide)
theorem ar_p2 (h : Ar a) {i x : Int32} {k : jx_H → Option α} : jx_pi (HH I J) 0 (a + 2) i x k = jx_at i 8 (k (HH (up2 I (a + 2) i.toNatClampNeg x) J)) := m_pi h.2.2.1 (by decide) (by decide)
theorem ar_p3 (h : Ar a) {i x : Int32} {k : jx_H → Option α} : jx_pi (HH I J) 0 (a + 3) i x k = jx_at i 8 (k (HH (up2 I (a + 3) i.toNatClampNeg x) J)) := m_pi h.2.2.2 (by decide) (by decide)
theorem ar_rcv (h : Ar a) {F : jx_F} {as : List Value} : jx_rcv F (HH I J) 0 (.ref a :: as) = true := m_rcv h.1
theorem g_0_0 {k : Value → Option α} : jx_gf (HH I J) 0 5 0 k = k (.ref 1) := m_gfr (ci := 5) rfl rfl
theorem g_0_1 {k : Value → Option α} : jx_gf (HH I J) 0 5 1 k = k (.ref 5) := m_gfr (ci := 5) rfl rfl
theorem g_0_2 {k : Value → Option α} : jx_gf (HH I J) 0 5 2 k = k (.ref 9) := m_gfr (ci := 5) rfl rfl
theorem g_0_3 {k : Value → Option α} : jx_gf (HH I J) 0 5 3 k = k (.ref 13) := m_gfr (ci := 5) rfl rfl
theorem g_0_4 {k : Value → Option α} : jx_gf (HH I J) 0 5 4 k = k (.ref 19) := m_gfr (ci := 5) rfl rfl
theorem g_0_5 {k : Value → Option α} : jx_gf (HH I J) 0 5 5 k = k (.ref 53) := m_gfr (ci := 5) rfl rfl
theorem g_0_6 {k : Value → Option α} : jx_gf (HH I J) 0 5 6 k = k (.ref 62) := m_gfr (ci := 5) rfl rfl
theorem g_0_7 {k : Value → Option α} : jx_gf (HH I J) 0 5 7 k = k (.ref 63) := m_gfr (ci := 5) rfl rfl
theorem g_0_8 {k : Value → Option α} : jx_gf (HH I J) 0 5 8 k = k (.ref 66) := m_gfr (ci := 5) rfl rfl
theorem rcv_0 {F : jx_F} {as : List Value} : jx_rcv F (HH I J) 5 (.ref 0 :: as) = true := m_rcv rfl
theorem g_13_0 {k : Value → Option α} : jx_gf (HH I J) 13 4 0 k = k (.ref 14) := m_gfr (ci := 4) rfl rfl
theorem g_13_1 {k : Value → Option α} : jx_gf (HH I J) 13 4 1 k = k (.ref 15) := m_gfr (ci := 4) rfl rfl
theorem g_13_2 {k : Value → Option α} : jx_gf (HH I J) 13 4 2 k = k (.int (I 13 2)) := m_gfi (ci := 4) rfl rfl
theorem p_13_2 {x : Int32} {k : jx_H → Option α} : jx_pf (HH I J) 13 4 2 (.int x) k = k (HH (up2 I 13 2 x) J) := m_pf (ci := 4) rfl rfl
theorem g_13_3 {k : Value → Option α} : jx_gf (HH I J) 13 4 3 k = k (.int (I 13 3)) := m_gfi (ci := 4) rfl rfl
theorem p_13_3 {x : Int32} {k : jx_H → Option α} : jx_pf (HH I J) 13 4 3 (.int x) k = k (HH (up2 I 13 3 x) J) := m_pf (ci := 4) rfl rfl
theorem g_13_4 {k : Value → Option α} : jx_gf (HH I J) 13 4 4 k = k (.int (I 13 4)) := m_gfi (ci := 4) rfl rfl
theorem p_13_4 {x : Int32} {k : jx_H → Option α} : jx_pf (HH I J) 13 4 4 (.int x) k = k (HH (up2 I 13 4 x) J) := m_pf (ci := 4) rfl rfl
theorem g_13_5 {k : Value → Option α} : jx_gf (HH I J) 13 4 5 k = k (.int (I 13 5)) := m_gfi (ci := 4) rfl rfl
theorem p_13_5 {x : Int32} {k : jx_H → Option α} : jx_pf (HH I J) 13 4 5 (.int x) k = k (HH (up2 I 13 5 x) J) := m_pf (ci := 4) rfl rfl
theorem rcv_13 {F : jx_F} {as : List Value} : jx_rcv F (HH I J) 4 (.ref 13 :: as) = true := m_rcv rfl
theorem gi_14 {i : Int32} {k : Int32 → Option α} : jx_gi (HH I J) 1 14 i k = jx_at i 200 (k (I 14 i.toNatClampNeg)) := m_gi rfl (by decide) (by decide)
theorem pi_14 {i x : Int32} {k : jx_H → Option α} : jx_pi (HH I J) 1 14 i x k = jx_at i 200 (k (HH (up2 I 14 i.toNatClampNeg x) J)) := m_pi rfl (by decide) (by decide)
theorem ln_14 {k : Int32 → Option α} : jx_len (HH I J) 14 k = k (Int32.ofNat 200) := m_len rfl (by decide)
theorem g_19_0 {k : Value → Option α} : jx_gf (HH I J) 19 1 0 k = k (.ref 20) := m_gfr (ci := 1) rfl rfl
theorem g_19_1 {k : Value → Option α} : jx_gf (HH I J) 19 1 1 k = k (.int (I 19 1)) := m_gfi (ci := 1) rfl rfl
theorem p_19_1 {x : Int32} {k : jx_H → Option α} : jx_pf (HH I J) 19 1 1 (.int x) k = k (HH (up2 I 19 1 x) J) := m_pf (ci := 1) rfl rfl
theorem g_19_2 {k : Value → Option α} : jx_gf (HH I J) 19 1 2 k = k (.int (I 19 2)) := m_gfi (ci := 1) rfl rfl
theorem p_19_2 {x : Int32} {k : jx_H → Option α} : jx_pf (HH I J) 19 1 2 (.int x) k = k (HH (up2 I 19 2 x) J) := m_pf (ci := 1) rfl rfl
theorem rcv_19 {F : jx_F} {as : List Value} : jx_rcv F (HH I J) 1 (.ref 19 :: as) = true := m_rcv rfl
theorem gi_62 {i : Int32} {k : Int32 → Option α} : jx_gi (HH I J) 2 62 i k = jx_at i 2 (k (I 62 i.toNatClampNeg)) := m_gi rfl (by decide) (by decide)
theorem pi_62 {i x : Int32} {k : jx_H → Option α} : jx_pi (HH I J) 2 62 i x k = jx_at i 2 (k (HH (up2 I 62 i.toNatClampNeg x) J)) := m_pi rfl (by decide) (by decide)
theorem ln_62 {k : Int32 → Option α} : jx_len (HH I J) 62 k = k (Int32.ofNat 2) := m_len rfl (by decide)
theorem g_63_0 {k : Value → Option α} : jx_gf (HH I J) 63 3 0 k = k (.ref 64) := m_gfr (ci := 3) rfl rfl
theorem g_63_1 {k : Value → Option α} : jx_gf (HH I J) 63 3 1 k = k (.ref 65) := m_gfr (ci := 3) rfl rfl
theorem g_63_2 {k : Value → Option α} : jx_gf (HH I J) 63 3 2 k = k (.int (I 63 2)) := m_gfi (ci := 3) rfl rfl
theorem p_63_2 {x : Int32} {k : jx_H → Option α} : jx_pf (HH I J) 63 3 2 (.int x) k = k (HH (up2 I 63 2 x) J) := m_pf (ci := 3) rfl rfl
theorem rcv_63 {F : jx_F} {as : List Value} : jx_rcv F (HH I J) 3 (.ref 63 :: as) = true := m_rcv rfl
theorem gi_64 {i : Int32} {k : Int32 → Option α} : jx_gi (HH I J) 0 64 i k = jx_at i 6 (k (I 64 i.toNatClampNeg)) := m_gi rfl (by decide) (by decide)
theorem pi_64 {i x : Int32} {k : jx_H → Option α} : jx_pi (HH I J) 0 64 i x k = jx_at i 6 (k (HH (up2 I 64 i.toNatClampNeg x) J)) := m_pi rfl (by decide) (by decide)
theorem ln_64 {k : Int32 → Option α} : jx_len (HH I J) 64 k = k (Int32.ofNat 6) := m_len rfl (by decide)
theorem gi_65 {i : Int32} {k : Int32 → Option α} : jx_gi (HH I J) 0 65 i k = jx_at i 6 (k (I 65 i.toNatClampNeg)) := m_gi rfl (by decide) (by decide)
theorem pi_65 {i x : Int32} {k : jx_H → Option α} : jx_pi (HH I J) 0 65 i x k = jx_at i 6 (k (HH (up2 I 65 i.toNatClampNeg x) J)) := m_pi rfl (by decide) (by decide)
theorem ln_65 {k : Int32 → Option α} : jx_len (HH I J) 65 k = k (Int32.ofNat 6) := m_len rfl (by decide)
theorem g_67_0 {k : Value → Option α} : jx_gf (HH I J) 67 2 0 k = k (.ref 68) := m_gfr (ci := 2) rfl rfl
theorem g_67_1 {k : Value → Option α} : jx_gf (HH I J) 67 2 1 k = k (.int (I 67 1)) := m_gfi (ci := 2) rfl rfl
theorem p_67_1 {x : Int32} {k : jx_H → Option α} : jx_pf (HH I J) 67 2 1 (.int x) k = k (HH (up2 I 67 1 x) J) := m_pf (ci := 2) rfl rfl
theorem g_67_2 {k : Value → Option α} : jx_gf (HH I J) 67 2 2 k = k (.int (I 67 2)) := m_gfi (ci := 2) rfl rfl
theorem p_67_2 {x : Int32} {k : jx_H → Option α} : jx_pf (HH I J) 67 2 2 (.int x) k = k (HH (up2 I 67 2 x) J) := m_pf (ci := 2) rfl rfl
theorem rcv_67 {F : jx_F} {as : List Value} : jx_rcv F (HH I J) 2 (.ref 67 :: as) = true := m_rcv rfl
theorem gl_68 {i : Int32} {k : Int64 → Option α} : jx_gl (HH I J) 68 i k = jx_at i 10 (k (J 68 i.toNatClampNeg)) := m_gl rfl
theorem pl_68 {i : Int32} {x : Int64} {k : jx_H → Option α} : jx_pl (HH I J) 68 i x k = jx_at i 10 (k (HH I (up2L J 68 i.toNatClampNeg x))) := m_pl rfl
theorem g_69_0 {k : Value → Option α} : jx_gf (HH I J) 69 2 0 k = k (.ref 70) := m_gfr (ci := 2) rfl rfl
theorem g_69_1 {k : Value → Option α} : jx_gf (HH I J) 69 2 1 k = k (.int (I 69 1)) := m_gfi (ci := 2) rfl rfl
theorem p_69_1 {x : Int32} {k : jx_H → Option α} : jx_pf (HH I J) 69 2 1 (.int x) k = k (HH (up2 I 69 1 x) J) := m_pf (ci := 2) rfl rfl
theorem g_69_2 {k : Value → Option α} : jx_gf (HH I J) 69 2 2 k = k (.int (I 69 2)) := m_gfi (ci := 2) rfl rfl
theorem p_69_2 {x : Int32} {k : jx_H → Option α} : jx_pf (HH I J) 69 2 2 (.int x) k = k (HH (up2 I 69 2 x) J) := m_pf (ci := 2) rfl rfl
theorem rcv_69 {F : jx_F} {as : List Value} : jx_rcv F (HH I J) 2 (.ref 69 :: as) = true := m_rcv rfl
theorem gl_70 {i : Int32} {k : Int64 → Option α} : jx_gl (HH I J) 70 i k = jx_at i 10 (k (J 70 i.toNatClampNeg)) := m_gl rfl
theorem pl_70 {i : Int32} {x : Int64} {k : jx_H → Option α} : jx_pl (HH I J) 70 i x k = jx_at i 10 (k (HH I (up2L J 70 i.toNatClampNeg x))) := m_pl rfl
theorem g_71_0 {k : Value → Option α} : jx_gf (HH I J) 71 2 0 k = k (.ref 72) := m_gfr (ci := 2) rfl rfl
theorem g_71_1 {k : Value → Option α} : jx_gf (HH I J) 71 2 1 k = k (.int (I 71 1)) := m_gfi (ci := 2) rfl rfl
theorem p_71_1 {x : Int32} {k : jx_H → Option α} : jx_pf (HH I J) 71 2 1 (.int x) k = k (HH (up2 I 71 1 x) J) := m_pf (ci := 2) rfl rfl
theorem g_71_2 {k : Value → Option α} : jx_gf (HH I J) 71 2 2 k = k (.int (I 71 2)) := m_gfi (ci := 2) rfl rfl
theorem p_71_2 {x : Int32} {k : jx_H → Option α} : jx_pf (HH I J) 71 2 2 (.int x) k = k (HH (up2 I 71 2 x) J) := m_pf (ci := 2) rfl rfl
theorem rcv_71 {F : jx_F} {as : List Value} : jx_rcv F (HH I J) 2 (.ref 71 :: as) = true := m_rcv rfl
theorem gl_72 {i : Int32} {k : Int64 → Option α} : jx_gl (HH I J) 72 i k = jx_at i 10 (k (J 72 i.toNatClampNeg)) := m_gl rfl
theorem pl_72 {i : Int32} {x : Int64} {k : jx_H → Option α} : jx_pl (HH I J) 72 i x k = jx_at i 10 (k (HH I (up2L J 72 i.toNatClampNeg x))) := m_pl rfl
theorem g_73_0 {k : Value → Option α} : jx_gf (HH I J) 73 6 0 k = k (.ref 74) := m_gfr (ci := 6) rfl rfl
theorem g_73_1 {k : Value → Option α} : jx_gf (HH I J) 73 6 1 k = k (.int (I 73 1)) := m_gfi (ci := 6) rfl rfl
theorem p_73_1 {x : Int32} {k : jx_H → Option α} : jx_pf (HH I J) 73 6 1 (.int x) k = k (HH (up2 I 73 1 x) J) := m_pf (ci := 6) rfl rfl
theorem g_73_2 {k : Value → Option α} : jx_gf (HH I J) 73 6 2 k = k (.ref 75) := m_gfr (ci := 6) rfl rfl
theorem g_73_3 {k : Value → Option α} : jx_gf (HH I J) 73 6 3 k = k (.ref 76) := m_gfr (ci := 6) rfl rfl
theorem g_73_4 {k : Value → Option α} : jx_gf (HH I J) 73 6 4 k = k (.int (I 73 4)) := m_gfi (ci := 6) rfl rfl
theorem p_73_4 {x : Int32} {k : jx_H → Option α} : jx_pf (HH I J) 73 6 4 (.int x) k = k (HH (up2 I 73 4 x) J) := m_pf (ci := 6) rfl rfl
theorem g_73_5 {k : Value → Option α} : jx_gf (HH I J) 73 6 5 k = k (.int (I 73 5)) := m_gfi (ci := 6) rfl rfl
theorem p_73_5 {x : Int32} {k : jx_H → Option α} : jx_pf (HH I J) 73 6 5 (.int x) k = k (HH (up2 I 73 5 x) J) := m_pf (ci := 6) rfl rfl
theorem g_73_6 {k : Value → Option α} : jx_gf (HH I J) 73 6 6 k = k (.ref 77) := m_gfr (ci := 6) rfl rfl
theorem g_73_7 {k : Value → Option α} : jx_gf (HH I J) 73 6 7 k = k (.ref 78) := m_gfr (ci := 6) rfl rfl
theorem g_73_8 {k : Value → Option α} : jx_gf (HH I J) 73 6 8 k = k (.ref 79) := m_gfr (ci := 6) rfl rfl
theorem g_73_9 {k : Value → Option α} : jx_gf (HH I J) 73 6 9 k = k (.ref 80) := m_gfr (ci := 6) rfl rfl
theorem g_73_10 {k : Value → Option α} : jx_gf (HH I J) 73 6 10 k = k (.ref 81) := m_gfr (ci := 6) rfl rfl
theorem g_73_11 {k : Value → Option α} : jx_gf (HH I J) 73 6 11 k = k (.ref 82) := m_gfr (ci := 6) rfl rfl
theorem g_73_12 {k : Value → Option α} : jx_gf (HH I J) 73 6 12 k = k (.int (I 73 12)) := m_gfi (ci := 6) rfl rfl
theorem p_73_12 {x : Int32} {k : jx_H → Option α} : jx_pf (HH I J) 73 6 12 (.int x) k = k (HH (up2 I 73 12 x) J) := m_pf (ci := 6) rfl rfl
theorem g_73_13 {k : Value → Option α} : jx_gf (HH I J) 73 6 13 k = k (.int (I 73 13)) := m_gfi (ci := 6) rfl rfl
theorem p_73_13 {x : Int32} {k : jx_H → Option α} : jx_pf (HH I J) 73 6 13 (.int x) k = k (HH (up2 I 73 13 x) J) := m_pf (ci := 6) rfl rfl
theorem g_73_14 {k : Value → Option α} : jx_gf (HH I J) 73 6 14 k = k (.int (I 73 14)) := m_gfi (ci := 6) rfl rfl
theorem p_73_14 {x : Int32} {k : jx_H → Option α} : jx_pf (HH I J) 73 6 14 (.int x) k = k (HH (up2 I 73 14 x) J) := m_pf (ci := 6) rfl rfl
theorem g_73_15 {k : Value → Option α} : jx_gf (HH I J) 73 6 15 k = k (.int (I 73 15)) := m_gfi (ci := 6) rfl rfl
theorem p_73_15 {x : Int32} {k : jx_H → Option α} : jx_pf (HH I J) 73 6 15 (.int x) k = k (HH (up2 I 73 15 x) J) := m_pf (ci := 6) rfl rfl
theorem g_73_16 {k : Value → Option α} : jx_gf (HH I J) 73 6 16 k = k (.int (I 73 16)) := m_gfi (ci := 6) rfl rfl
theorem p_73_16 {x : Int32} {k : jx_H → Option α} : jx_pf (HH I J) 73 6 16 (.int x) k = k (HH (up2 I 73 16 x) J) := m_pf (ci := 6) rfl rfl
theorem g_73_17 {k : Value → Option α} : jx_gf (HH I J) 73 6 17 k = k (.ref 83) := m_gfr (ci := 6) rfl rfl
theorem g_73_18 {k : Value → Option α} : jx_gf (HH I J) 73 6 18 k = k (.ref 84) := m_gfr (ci := 6) rfl rfl
theorem g_73_19 {k : Value → Option α} : jx_gf (HH I J) 73 6 19 k = k (.ref 85) := m_gfr (ci := 6) rfl rfl
theorem g_73_20 {k : Value → Option α} : jx_gf (HH I J) 73 6 20 k = k (.ref 86) := m_gfr (ci := 6) rfl rfl
theorem g_73_21 {k : Value → Option α} : jx_gf (HH I J) 73 6 21 k = k (.ref 87) := m_gfr (ci := 6) rfl rfl
theorem g_73_22 {k : Value → Option α} : jx_gf (HH I J) 73 6 22 k = k (.ref 88) := m_gfr (ci := 6) rfl rfl
theorem g_73_23 {k : Value → Option α} : jx_gf (HH I J) 73 6 23 k = k (.ref 89) := m_gfr (ci := 6) rfl rfl
theorem g_73_24 {k : Value → Option α} : jx_gf (HH I J) 73 6 24 k = k (.ref 90) := m_gfr (ci := 6) rfl rfl
theorem g_73_25 {k : Value → Option α} : jx_gf (HH I J) 73 6 25 k = k (.ref 91) := m_gfr (ci := 6) rfl rfl
theorem g_73_26 {k : Value → Option α} : jx_gf (HH I J) 73 6 26 k = k (.ref 92) := m_gfr (ci := 6) rfl rfl
theorem g_73_27 {k : Value → Option α} : jx_gf (HH I J) 73 6 27 k = k (.ref 93) := m_gfr (ci := 6) rfl rfl
theorem g_73_28 {k : Value → Option α} : jx_gf (HH I J) 73 6 28 k = k (.ref 94) := m_gfr (ci := 6) rfl rfl
theorem rcv_73 {F : jx_F} {as : List Value} : jx_rcv F (HH I J) 6 (.ref 73 :: as) = true := m_rcv rfl
theorem gi_74 {i : Int32} {k : Int32 → Option α} : jx_gi (HH I J) 0 74 i k = jx_at i 239 (k (I 74 i.toNatClampNeg)) := m_gi rfl (by decide) (by decide)
theorem pi_74 {i x : Int32} {k : jx_H → Option α} : jx_pi (HH I J) 0 74 i x k = jx_at i 239 (k (HH (up2 I 74 i.toNatClampNeg x) J)) := m_pi rfl (by decide) (by decide)
theorem ln_74 {k : Int32 → Option α} : jx_len (HH I J) 74 k = k (Int32.ofNat 239) := m_len rfl (by decide)
theorem gi_75 {i : Int32} {k : Int32 → Option α} : jx_gi (HH I J) 2 75 i k = jx_at i 2 (k (I 75 i.toNatClampNeg)) := m_gi rfl (by decide) (by decide)
theorem pi_75 {i x : Int32} {k : jx_H → Option α} : jx_pi (HH I J) 2 75 i x k = jx_at i 2 (k (HH (up2 I 75 i.toNatClampNeg x) J)) := m_pi rfl (by decide) (by decide)
theorem ln_75 {k : Int32 → Option α} : jx_len (HH I J) 75 k = k (Int32.ofNat 2) := m_len rfl (by decide)
theorem gi_76 {i : Int32} {k : Int32 → Option α} : jx_gi (HH I J) 0 76 i k = jx_at i 200 (k (I 76 i.toNatClampNeg)) := m_gi rfl (by decide) (by decide)
theorem pi_76 {i x : Int32} {k : jx_H → Option α} : jx_pi (HH I J) 0 76 i x k = jx_at i 200 (k (HH (up2 I 76 i.toNatClampNeg x) J)) := m_pi rfl (by decide) (by decide)
theorem ln_76 {k : Int32 → Option α} : jx_len (HH I J) 76 k = k (Int32.ofNat 200) := m_len rfl (by decide)
theorem gi_77 {i : Int32} {k : Int32 → Option α} : jx_gi (HH I J) 0 77 i k = jx_at i 6 (k (I 77 i.toNatClampNeg)) := m_gi rfl (by decide) (by decide)
theorem pi_77 {i x : Int32} {k : jx_H → Option α} : jx_pi (HH I J) 0 77 i x k = jx_at i 6 (k (HH (up2 I 77 i.toNatClampNeg x) J)) := m_pi rfl (by decide) (by decide)
theorem ln_77 {k : Int32 → Option α} : jx_len (HH I J) 77 k = k (Int32.ofNat 6) := m_len rfl (by decide)
theorem gi_78 {i : Int32} {k : Int32 → Option α} : jx_gi (HH I J) 0 78 i k = jx_at i 6 (k (I 78 i.toNatClampNeg)) := m_gi rfl (by decide) (by decide)
theorem pi_78 {i x : Int32} {k : jx_H → Option α} : jx_pi (HH I J) 0 78 i x k = jx_at i 6 (k (HH (up2 I 78 i.toNatClampNeg x) J)) := m_pi rfl (by decide) (by decide)
theorem ln_78 {k : Int32 → Option α} : jx_len (HH I J) 78 k = k (Int32.ofNat 6) := m_len rfl (by decide)
theorem gi_79 {i : Int32} {k : Int32 → Option α} : jx_gi (HH I J) 0 79 i k = jx_at i 6 (k (I 79 i.toNatClampNeg)) := m_gi rfl (by decide) (by decide)
theorem pi_79 {i x : Int32} {k : jx_H → Option α} : jx_pi (HH I J) 0 79 i x k = jx_at i 6 (k (HH (up2 I 79 i.toNatClampNeg x) J)) := m_pi rfl (by decide) (by decide)
theorem ln_79 {k : Int32 → Option α} : jx_len (HH I J) 79 k = k (Int32.ofNat 6) := m_len rfl (by decide)
theorem gi_80 {i : Int32} {k : Int32 → Option α} : jx_gi (HH I J) 0 80 i k = jx_at i 3 (k (I 80 i.toNatClampNeg)) := m_gi rfl (by decide) (by decide)
theorem pi_80 {i x : Int32} {k : jx_H → Option α} : jx_pi (HH I J) 0 80 i x k = jx_at i 3 (k (HH (up2 I 80 i.toNatClampNeg x) J)) := m_pi rfl (by decide) (by decide)
theorem ln_80 {k : Int32 → Option α} : jx_len (HH I J) 80 k = k (Int32.ofNat 3) := m_len rfl (by decide)
theorem gi_81 {i : Int32} {k : Int32 → Option α} : jx_gi (HH I J) 0 81 i k = jx_at i 3 (k (I 81 i.toNatClampNeg)) := m_gi rfl (by decide) (by decide)
theorem pi_81 {i x : Int32} {k : jx_H → Option α} : jx_pi (HH I J) 0 81 i x k = jx_at i 3 (k (HH (up2 I 81 i.toNatClampNeg x) J)) := m_pi rfl (by decide) (by decide)
theorem ln_81 {k : Int32 → Option α} : jx_len (HH I J) 81 k = k (Int32.ofNat 3) := m_len rfl (by decide)
theorem gi_82 {i : Int32} {k : Int32 → Option α} : jx_gi (HH I J) 0 82 i k = jx_at i 30 (k (I 82 i.toNatClampNeg)) := m_gi rfl (by decide) (by decide)
theorem pi_82 {i x : Int32} {k : jx_H → Option α} : jx_pi (HH I J) 0 82 i x k = jx_at i 30 (k (HH (up2 I 82 i.toNatClampNeg x) J)) := m_pi rfl (by decide) (by decide)
theorem ln_82 {k : Int32 → Option α} : jx_len (HH I J) 82 k = k (Int32.ofNat 30) := m_len rfl (by decide)
theorem gi_83 {i : Int32} {k : Int32 → Option α} : jx_gi (HH I J) 0 83 i k = jx_at i 2 (k (I 83 i.toNatClampNeg)) := m_gi rfl (by decide) (by decide)
theorem pi_83 {i x : Int32} {k : jx_H → Option α} : jx_pi (HH I J) 0 83 i x k = jx_at i 2 (k (HH (up2 I 83 i.toNatClampNeg x) J)) := m_pi rfl (by decide) (by decide)
theorem ln_83 {k : Int32 → Option α} : jx_len (HH I J) 83 k = k (Int32.ofNat 2) := m_len rfl (by decide)
theorem gi_84 {i : Int32} {k : Int32 → Option α} : jx_gi (HH I J) 0 84 i k = jx_at i 4 (k (I 84 i.toNatClampNeg)) := m_gi rfl (by decide) (by decide)
theorem pi_84 {i x : Int32} {k : jx_H → Option α} : jx_pi (HH I J) 0 84 i x k = jx_at i 4 (k (HH (up2 I 84 i.toNatClampNeg x) J)) := m_pi rfl (by decide) (by decide)
theorem ln_84 {k : Int32 → Option α} : jx_len (HH I J) 84 k = k (Int32.ofNat 4) := m_len rfl (by decide)
theorem gi_85 {i : Int32} {k : Int32 → Option α} : jx_gi (HH I J) 0 85 i k = jx_at i 5 (k (I 85 i.toNatClampNeg)) := m_gi rfl (by decide) (by decide)
theorem pi_85 {i x : Int32} {k : jx_H → Option α} : jx_pi (HH I J) 0 85 i x k = jx_at i 5 (k (HH (up2 I 85 i.toNatClampNeg x) J)) := m_pi rfl (by decide) (by decide)
theorem ln_85 {k : Int32 → Option α} : jx_len (HH I J) 85 k = k (Int32.ofNat 5) := m_len rfl (by decide)
theorem gi_86 {i : Int32} {k : Int32 → Option α} : jx_gi (HH I J) 0 86 i k = jx_at i 6 (k (I 86 i.toNatClampNeg)) := m_gi rfl (by decide) (by decide)
theorem pi_86 {i x : Int32} {k : jx_H → Option α} : jx_pi (HH I J) 0 86 i x k = jx_at i 6 (k (HH (up2 I 86 i.toNatClampNeg x) J)) := m_pi rfl (by decide) (by decide)
theorem ln_86 {k : Int32 → Option α} : jx_len (HH I J) 86 k = k (Int32.ofNat 6) := m_len rfl (by decide)
theorem gi_87 {i : Int32} {k : Int32 → Option α} : jx_gi (HH I J) 0 87 i k = jx_at i 6 (k (I 87 i.toNatClampNeg)) := m_gi rfl (by decide) (by decide)
theorem pi_87 {i x : Int32} {k : jx_H → Option α} : jx_pi (HH I J) 0 87 i x k = jx_at i 6 (k (HH (up2 I 87 i.toNatClampNeg x) J)) := m_pi rfl (by decide) (by decide)
theorem ln_87 {k : Int32 → Option α} : jx_len (HH I J) 87 k = k (Int32.ofNat 6) := m_len rfl (by decide)
theorem gi_88 {i : Int32} {k : Int32 → Option α} : jx_gi (HH I J) 0 88 i k = jx_at i 8 (k (I 88 i.toNatClampNeg)) := m_gi rfl (by decide) (by decide)
theorem pi_88 {i x : Int32} {k : jx_H → Option α} : jx_pi (HH I J) 0 88 i x k = jx_at i 8 (k (HH (up2 I 88 i.toNatClampNeg x) J)) := m_pi rfl (by decide) (by decide)
theorem ln_88 {k : Int32 → Option α} : jx_len (HH I J) 88 k = k (Int32.ofNat 8) := m_len rfl (by decide)
theorem gi_89 {i : Int32} {k : Int32 → Option α} : jx_gi (HH I J) 0 89 i k = jx_at i 7 (k (I 89 i.toNatClampNeg)) := m_gi rfl (by decide) (by decide)
theorem pi_89 {i x : Int32} {k : jx_H → Option α} : jx_pi (HH I J) 0 89 i x k = jx_at i 7 (k (HH (up2 I 89 i.toNatClampNeg x) J)) := m_pi rfl (by decide) (by decide)
theorem ln_89 {k : Int32 → Option α} : jx_len (HH I J) 89 k = k (Int32.ofNat 7) := m_len rfl (by decide)
theorem gi_90 {i : Int32} {k : Int32 → Option α} : jx_gi (HH I J) 0 90 i k = jx_at i 7 (k (I 90 i.toNatClampNeg)) := m_gi rfl (by decide) (by decide)
theorem pi_90 {i x : Int32} {k : jx_H → Option α} : jx_pi (HH I J) 0 90 i x k = jx_at i 7 (k (HH (up2 I 90 i.toNatClampNeg x) J)) := m_pi rfl (by decide) (by decide)
theorem ln_90 {k : Int32 → Option α} : jx_len (HH I J) 90 k = k (Int32.ofNat 7) := m_len rfl (by decide)
theorem gi_91 {i : Int32} {k : Int32 → Option α} : jx_gi (HH I J) 0 91 i k = jx_at i 6 (k (I 91 i.toNatClampNeg)) := m_gi rfl (by decide) (by decide)
theorem pi_91 {i x : Int32} {k : jx_H → Option α} : jx_pi (HH I J) 0 91 i x k = jx_at i 6 (k (HH (up2 I 91 i.toNatClampNeg x) J)) := m_pi rfl (by decide) (by decide)
theorem ln_91 {k : Int32 → Option α} : jx_len (HH I J) 91 k = k (Int32.ofNat 6) := m_len rfl (by decide)
theorem gi_92 {i : Int32} {k : Int32 → Option α} : jx_gi (HH I J) 0 92 i k = jx_at i 8 (k (I 92 i.toNatClampNeg)) := m_gi rfl (by decide) (by decide)
theorem pi_92 {i x : Int32} {k : jx_H → Option α} : jx_pi (HH I J) 0 92 i x k = jx_at i 8 (k (HH (up2 I 92 i.toNatClampNeg x) J)) := m_pi rfl (by decide) (by decide)
theorem ln_92 {k : Int32 → Option α} : jx_len (HH I J) 92 k = k (Int32.ofNat 8) := m_len rfl (by decide)
theorem gi_93 {i : Int32} {k : Int32 → Option α} : jx_gi (HH I J) 0 93 i k = jx_at i 4 (k (I 93 i.toNatClampNeg)) := m_gi rfl (by decide) (by decide)
theorem pi_93 {i x : Int32} {k : jx_H → Option α} : jx_pi (HH I J) 0 93 i x k = jx_at i 4 (k (HH (up2 I 93 i.toNatClampNeg x) J)) := m_pi rfl (by decide) (by decide)
theorem ln_93 {k : Int32 → Option α} : jx_len (HH I J) 93 k = k (Int32.ofNat 4) := m_len rfl (by decide)
theorem gi_94 {i : Int32} {k : Int32 → Option α} : jx_gi (HH I J) 0 94 i k = jx_at i 4 (k (I 94 i.toNatClampNeg)) := m_gi rfl (by decide) (by decide)
theorem pi_94 {i x : Int32} {k : jx_H → Option α} : jx_pi (HH I J) 0 94 i x k = jx_at i 4 (k (HH (up2 I 94 i.toNatClampNeg x) J)) := m_pi rfl (by decide) (by decide)
theorem ln_94 {k : Int32 → Option α} : jx_len (HH I J) 94 k = k (Int32.ofNat 4) := m_len rfl (by decide)
theorem ar_1 : Ar 1 := ⟨rfl, rfl, rfl, rfl⟩
theorem ar_5 : Ar 5 := ⟨rfl, rfl, rfl, rfl⟩
theorem ar_9 : Ar 9 := ⟨rfl, rfl, rfl, rfl⟩
theorem ar_15 : Ar 15 := ⟨rfl, rfl, rfl, rfl⟩
theorem ar_21 : Ar 21 := ⟨rfl, rfl, rfl, rfl⟩
theorem ar_25 : Ar 25 := ⟨rfl, rfl, rfl, rfl⟩
theorem ar_29 : Ar 29 := ⟨rfl, rfl, rfl, rfl⟩
theorem ar_33 : Ar 33 := ⟨rfl, rfl, rfl, rfl⟩
theorem ar_37 : Ar 37 := ⟨rfl, rfl, rfl, rfl⟩
theorem ar_41 : Ar 41 := ⟨rfl, rfl, rfl, rfl⟩
theorem ar_45 : Ar 45 := ⟨rfl, rfl, rfl, rfl⟩
theorem ar_49 : Ar 49 := ⟨rfl, rfl, rfl, rfl⟩
theorem ar_54 : Ar 54 := ⟨rfl, rfl, rfl, rfl⟩
theorem ar_58 : Ar 58 := ⟨rfl, rfl, rfl, rfl⟩
end Mem
