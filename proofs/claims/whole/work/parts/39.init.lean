/-! ===== what the constructors leave ===== -/
def i_new5 : jx_C := .inr (5, List.replicate 9 .null)
def i_new6 : jx_C := .inr (6, (jx_cls.getD 6 []).map fun q => bif Nat.beq q.1 9 then .null else .int 0)
def i_get (o : Option jx_Q) : jx_H := match o with
  | some (_, h) => h
  | none => []
theorem i_got {o : Option jx_Q} {v : Option Value} (h : o.map (fun r => r.1) = some v) : o = some (v, i_get o) := by
  cases o with
  | none => cases h
  | some q => obtain ⟨w, h'⟩ := q; cases h; rfl
def i_h1 : jx_H := i_get (jx_run ([], []) 4000 10 62 [.ref 0] [i_new5])
def i_h2 : jx_H := i_get (jx_run ([], []) 4000 10 102 [.ref 73] (i_h1 ++ [i_new6]))
/-- the rows of objects, as the constructors leave them -/
def lay_g (a j : Nat) : Option Nat := match i_h2[a]? with
  | some (.inl (_, _, .inr (.inr f))) => f j
  | _ => none
theorem lay_x : ∃ f : Nat → Nat → Option Nat, f = lay_g := ⟨lay_g, rfl⟩
noncomputable def lay_f : Nat → Nat → Option Nat := lay_x.choose
theorem lay_e : lay_f = lay_g := lay_x.choose_spec
theorem lg_20 : (List.range 8).all (fun j => decide (lay_g 20 j = ([some 21, some 25, some 29, some 33, some 37, some 41, some 45, some 49] : List (Option Nat)).getD j none)) = true := by decide +kernel
theorem lg_53 : (List.range 2).all (fun j => decide (lay_g 53 j = ([some 54, some 58] : List (Option Nat)).getD j none)) = true := by decide +kernel
theorem lg_66 : (List.range 3).all (fun j => decide (lay_g 66 j = ([some 67, some 69, some 71] : List (Option Nat)).getD j none)) = true := by decide +kernel
theorem lf_20 : (List.range 8).all (fun j => decide (lay_f 20 j = ([some 21, some 25, some 29, some 33, some 37, some 41, some 45, some 49] : List (Option Nat)).getD j none)) = true := by rw [lay_e]; exact lg_20
theorem lf_53 : (List.range 2).all (fun j => decide (lay_f 53 j = ([some 54, some 58] : List (Option Nat)).getD j none)) = true := by rw [lay_e]; exact lg_53
theorem lf_66 : (List.range 3).all (fun j => decide (lay_f 66 j = ([some 67, some 69, some 71] : List (Option Nat)).getD j none)) = true := by rw [lay_e]; exact lg_66
