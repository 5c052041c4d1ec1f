/-! ===== the constructors, by a run ===== -/
def rdI (h : jx_H) : Nat → Nat → Int32 := fun a => match h[a]? with
  | some (.inl (_, _, .inl f)) => f
  | some (.inr (_, fs)) => fun j => (match fs[j]? with
    | some (.int x) => x
    | _ => 0)
  | _ => fun _ => 0
def rdJ (h : jx_H) : Nat → Nat → Int64 := fun a => match h[a]? with
  | some (.inl (_, _, .inr (.inl f))) => f
  | _ => fun _ => 0
/-- does a cell have the layout's shape -/
def shp (e : jx_C) (c : lay_C) : Bool := match e with
  | .inl (t, n, .inl _) => Nat.beq t c.1 && Nat.beq n c.2.1 && !Nat.beq t 3 && Nat.blt t 10
  | .inl (t, n, .inr (.inl _)) => Nat.beq t 3 && Nat.beq c.1 3 && Nat.beq n c.2.1
  | .inl (_, _, .inr (.inr _)) => false
  | .inr (ci, fs) => Nat.beq c.1 (100 + ci) && Nat.beq fs.length c.2.2.length && (fs.zip c.2.2).all fun q => match q with
    | (.int _, none) => true
    | (.ref r, some r') => Nat.beq r r'
    | _ => false
theorem shp_re {h : jx_H} {a : Nat} {e : jx_C} {c : lay_C} (he : h[a]? = some e) (hs : shp e c = true) : lay_re (rdI h) (rdJ h) a c = e := by
  obtain ⟨kd, n, l⟩ := c
  unfold shp at hs
  split at hs
  · rename_i t m f
    simp only [Bool.and_eq_true] at hs
    obtain ⟨⟨⟨h1, h2⟩, h3⟩, h4⟩ := hs
    have e1 : t = kd := Nat.eq_of_beq_eq_true h1
    have e2 : m = n := Nat.eq_of_beq_eq_true h2
    subst e1; subst e2
    have ht : t < 10 := Nat.le_of_ble_eq_true h4
    have h3' : t ≠ 3 := fun q => by subst q; cases h3
    rw [re_arr ht h3']
    unfold rdI
    rw [he]
  · rename_i t m f
    simp only [Bool.and_eq_true] at hs
    obtain ⟨⟨h1, h2⟩, h3⟩ := hs
    cases Nat.eq_of_beq_eq_true h1
    cases Nat.eq_of_beq_eq_true h2
    cases Nat.eq_of_beq_eq_true h3
    rw [re_arrL]
    unfold rdJ
    rw [he]
  · cases hs
  · rename_i ci fs
    simp only [Bool.and_eq_true] at hs
    obtain ⟨⟨h1, h2⟩, h3⟩ := hs
    have e1 : kd = 100 + ci := Nat.eq_of_beq_eq_true h1
    have e2 : fs.length = l.length := Nat.eq_of_beq_eq_true h2
    subst e1
    rw [re_obj]
    have : (l.mapIdx fun j o => match o with
      | some r => Value.ref r
      | none => Value.int (rdI h a j)) = fs := by
      apply List.ext_getElem?
      intro j
      rw [List.getElem?_mapIdx]
      by_cases hj : j < fs.length
      · have hj' : j < l.length := by omega
        have hm : (fs[j], l[j]) ∈ fs.zip l := by
          apply List.mem_of_getElem? (i := j)
          rw [List.getElem?_zip_eq_some]
          exact ⟨List.getElem?_eq_getElem hj, List.getElem?_eq_getElem hj'⟩
        have hq := List.all_eq_true.mp h3 _ hm
        rw [List.getElem?_eq_getElem hj, List.getElem?_eq_getElem hj']
        have hrd : rdI h a j = (match fs[j]? with
          | some (.int x) => x
          | _ => 0) := by unfold rdI; rw [he]
        rw [List.getElem?_eq_getElem hj] at hrd
        cases hf : fs[j] with
        | int x =>
          cases hl : l[j] with
          | none =>
            rw [hf] at hrd
            show some (Value.int (rdI h a j)) = _
            rw [hrd]
          | some r => rw [hf, hl] at hq; cases hq
        | ref r =>
          cases hl : l[j] with
          | none => rw [hf, hl] at hq; cases hq
          | some r' =>
            rw [hf, hl] at hq
            cases Nat.eq_of_beq_eq_true hq
            rfl
        | _ => cases hl : l[j] <;> rw [hf, hl] at hq <;> cases hq
      · rw [List.getElem?_eq_none (by omega), List.getElem?_eq_none (by omega)]; rfl
    exact congrArg (fun x => Sum.inr (ci, x)) this
/-- rows of objects: their shape -/
def shpR (e : jx_C) (c : lay_C) : Bool := match e with
  | .inl (t, n, .inr (.inr _)) => Nat.beq t c.1 && Nat.beq n c.2.1 && jx_rs t
  | _ => false
theorem i_r1 : (jx_run ([], []) 4000 10 62 [.ref 0] [i_new5]).map (fun r => r.1) = some none := by decide +kernel
theorem i_r2 : (jx_run ([], []) 4000 10 102 [.ref 73] (i_h1 ++ [i_new6])).map (fun r => r.1) = some none := by decide +kernel
theorem i_len : i_h1.length = 73 ∧ i_h2.length = 95 ∧ lay.length = 95 := by decide +kernel
theorem i_shp : (i_h2.zip lay).all (fun q => shp q.1 q.2 || shpR q.1 q.2) = true := by decide +kernel
theorem i_run1 (F : jx_F) : rn F 10 62 [.ref 0] [i_new5] = some (none, i_h1) := by
  unfold i_h1
  exact rn_of_run (N := 4000) (jf_run _ _ _ _ _ (i_got i_r1))
theorem i_run2 (F : jx_F) : rn F 10 102 [.ref 73] (i_h1 ++ [i_new6]) = some (none, i_h2) := by
  unfold i_h2
  exact rn_of_run (N := 4000) (jf_run _ _ _ _ _ (i_got i_r2))
