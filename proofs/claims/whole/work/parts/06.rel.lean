/-! ===== pictures and the machine's heap ===== -/
def jx_cv (SZ : Nat) (fa : Nat → Nat) : Value → Value
  | .ref k => .ref (SZ + k)
  | .retAddr j => .ref (fa j)
  | v => v
def jx_ce (SZ : Nat) (fa : Nat → Nat) (cA : Nat → ClassId) : jx_C → va_E
  | .inl (t, n, .inl f) => .inl (cA t, n, .inl f)
  | .inl (t, n, .inr (.inl f)) => .inl (cA t, n, .inr (.inl f))
  | .inl (t, n, .inr (.inr f)) => .inl (cA t, n, .inr (.inr (.inr (.inr fun j => (f j).map fun x => SZ + x))))
  | .inr (ci, fs) => .inr (ci, fs.map (jx_cv SZ fa))
def jx_ws (SZ : Nat) (fa : Nat → Nat) (cA : Nat → ClassId) (h : jx_H) : va_W := h.mapIdx fun k e => (SZ + k, jx_ce SZ fa cA e)
abbrev jx_A (SZ : Nat) : Nat → Prop := fun q => SZ ≤ q
section JWs
variable {SZ : Nat} {fa : Nat → Nat} {cA : Nat → ClassId} {h : jx_H}
theorem jw_get {k : Nat} {e : jx_C} (H : h[k]? = some e) : (jx_ws SZ fa cA h)[k]? = some (SZ + k, jx_ce SZ fa cA e) := by
  unfold jx_ws; rw [List.getElem?_mapIdx, H]; rfl
theorem jw_set (k : Nat) (e : jx_C) : (jx_ws SZ fa cA h).set k (SZ + k, jx_ce SZ fa cA e) = jx_ws SZ fa cA (h.set k e) := by
  apply List.ext_getElem?
  intro i
  unfold jx_ws
  rw [List.getElem?_set, List.getElem?_mapIdx, List.getElem?_mapIdx, List.getElem?_set, List.length_mapIdx]
  by_cases hk : k = i
  · subst hk
    by_cases hl : k < h.length
    · simp [hl]
    · simp [hl]
  · simp [hk]
theorem jw_app (e : jx_C) : jx_ws SZ fa cA h ++ [(SZ + h.length, jx_ce SZ fa cA e)] = jx_ws SZ fa cA (h ++ [e]) := by
  unfold jx_ws; rw [List.mapIdx_append]; simp
theorem jw_D : va_D (jx_A SZ) (jx_ws SZ fa cA h) := by
  refine ⟨fun i j p q hp hq e => ?_, fun k q hq => ?_⟩
  · unfold jx_ws at hp hq
    rw [List.getElem?_mapIdx] at hp hq
    cases h1 : h[i]? with
    | none => rw [h1] at hp; cases hp
    | some a =>
      cases h2 : h[j]? with
      | none => rw [h2] at hq; cases hq
      | some b =>
        rw [h1] at hp; rw [h2] at hq
        cases hp; cases hq
        have e : SZ + i = SZ + j := e
        omega
  · unfold jx_ws at hq
    rw [List.getElem?_mapIdx] at hq
    cases h1 : h[k]? with
    | none => rw [h1] at hq; cases hq
    | some a => rw [h1] at hq; cases hq; show SZ ≤ SZ + k; omega
theorem jx_cat (v : Value) : (jx_cv SZ fa v).category = v.category := by cases v <;> rfl
theorem jx_catM (st : List Value) : ((st.map (jx_cv SZ fa)).map fun v => v.category).sum = jx_catS st := by
  unfold jx_catS; rw [List.map_map]; congr 1; apply List.map_congr_left; intro v _; exact jx_cat v
end JWs
/-- the locals -/
def jx_Lr (SZ : Nat) (fa : Nat → Nat) (ls : Array Slot) (nL : Nat) (L : List Value) : Prop := ls.size = nL ∧ lv_wf ls ∧ L.length = nL ∧ ∀ (i : Nat) (v : Value), L[i]? = some v → v ≠ jx_junk → ls[i]? = some (.val (jx_cv SZ fa v))
def jx_prs (SZ : Nat) (fa : Nat → Nat) (L : List Value) : List (Nat × Value) := (List.range L.length).filterMap fun j => match L[j]? with
  | some v => if v = jx_junk then none else some (j, jx_cv SZ fa v)
  | none => none
section JLs
variable {SZ : Nat} {fa : Nat → Nat} {ls : Array Slot} {nL : Nat} {L : List Value}
theorem jl_mem {i : Nat} {v : Value} (h : L[i]? = some v) (hv : v ≠ jx_junk) : (i, jx_cv SZ fa v) ∈ jx_prs SZ fa L := by
  unfold jx_prs
  refine List.mem_filterMap.mpr ⟨i, List.mem_range.mpr (List.getElem?_eq_some_iff.mp h).1, ?_⟩
  simp only [h, if_neg hv]
theorem jl_of {q : Nat × Value} (h : q ∈ jx_prs SZ fa L) : ∃ v, L[q.1]? = some v ∧ v ≠ jx_junk ∧ q.2 = jx_cv SZ fa v := by
  unfold jx_prs at h
  obtain ⟨j, hj, hq⟩ := List.mem_filterMap.mp h
  cases hv : L[j]? with
  | none => simp only [hv] at hq; cases hq
  | some v =>
    simp only [hv] at hq
    split at hq
    · cases hq
    · cases hq; exact ⟨v, hv, by assumption, rfl⟩
theorem jl_has (h : jx_Lr SZ fa ls nL L) : lv_has ls nL (jx_prs SZ fa L) := ⟨h.1, h.2.1, fun q hq => by
  obtain ⟨v, h1, h2, h3⟩ := jl_of hq
  rw [h3]; exact h.2.2.2 _ _ h1 h2⟩
theorem jl_i {i : Nat} {x : Int32} (h : jx_Lr SZ fa ls nL L) (hi : L[i]? = some (.int x)) : ls[i]? = some (.val (.int x)) := h.2.2.2 _ _ hi (fun q => by cases q)
theorem jl_l {i : Nat} {x : Int64} (h : jx_Lr SZ fa ls nL L) (hi : L[i]? = some (.long x)) : ls[i]? = some (.val (.long x)) := h.2.2.2 _ _ hi (fun q => by cases q)
theorem jl_r {i : Nat} {x : Nat} (h : jx_Lr SZ fa ls nL L) (hi : L[i]? = some (.ref x)) : ls[i]? = some (.val (.ref (SZ + x))) := h.2.2.2 _ _ hi (fun q => by cases q)
theorem jl_f {i : Nat} {x : Nat} (h : jx_Lr SZ fa ls nL L) (hi : L[i]? = some (.retAddr x)) : ls[i]? = some (.val (.ref (fa x))) := h.2.2.2 _ _ hi (fun q => by cases q)
theorem jl_isL {v : Value} (h : v.category = 2) : jx_isL (some v) = true := by cases v <;> simp [Value.category] at h <;> rfl
theorem jl_st1 {i : Nat} {v : Value} {ls' : Array Slot} (h : jx_Lr SZ fa ls nL L) (hp : ¬ (1 ≤ i ∧ jx_isL L[i - 1]? = true))
    (h' : lv_has ls' nL ((i, jx_cv SZ fa v) :: (jx_prs SZ fa L).filter (fun q => !(q.1 == i) && !(q.1 + 1 == i && q.2.category == 2)))) : jx_Lr SZ fa ls' nL (L.set i v) := by
  refine ⟨h'.1, h'.2.1, by rw [List.length_set]; exact h.2.2.1, fun j w hj hw => ?_⟩
  rw [List.getElem?_set] at hj
  by_cases e : i = j
  · subst e
    rw [if_pos rfl] at hj
    split at hj
    · cases hj; exact h'.2.2 _ List.mem_cons_self
    · cases hj
  · rw [if_neg e] at hj
    refine h'.2.2 (j, jx_cv SZ fa w) (List.mem_cons_of_mem _ (List.mem_filter.mpr ⟨jl_mem hj hw, ?_⟩))
    have e' : ¬ j = i := fun q => e q.symm
    have e2 : ¬ (j + 1 = i ∧ (jx_cv SZ fa w).category = 2) := by
      rintro ⟨q1, q2⟩
      rw [jx_cat] at q2
      refine hp ⟨by omega, ?_⟩
      have : i - 1 = j := by omega
      rw [this, hj]
      exact jl_isL q2
    simp only [Bool.and_eq_true, Bool.not_eq_true', beq_eq_false_iff_ne, ne_eq, e', not_false_eq_true, true_and, Bool.and_eq_false_iff]
    by_cases q1 : j + 1 = i
    · exact Or.inr (fun q2 => e2 ⟨q1, q2⟩)
    · exact Or.inl q1
theorem jl_st2 {i : Nat} {v : Value} {ls' : Array Slot} (h : jx_Lr SZ fa ls nL L) (hp : ¬ (1 ≤ i ∧ jx_isL L[i - 1]? = true))
    (h' : lv_has ls' nL ((i, jx_cv SZ fa v) :: (jx_prs SZ fa L).filter (fun q => !(q.1 == i) && (!(q.1 == i + 1) && !(q.1 + 1 == i && q.2.category == 2))))) : jx_Lr SZ fa ls' nL ((L.set i v).set (i + 1) jx_junk) := by
  refine ⟨h'.1, h'.2.1, by rw [List.length_set, List.length_set]; exact h.2.2.1, fun j w hj hw => ?_⟩
  rw [List.getElem?_set] at hj
  by_cases e0 : i + 1 = j
  · rw [if_pos e0] at hj
    split at hj
    · cases hj; exact absurd rfl hw
    · cases hj
  · rw [if_neg e0, List.getElem?_set] at hj
    by_cases e : i = j
    · subst e
      rw [if_pos rfl] at hj
      split at hj
      · cases hj; exact h'.2.2 _ List.mem_cons_self
      · cases hj
    · rw [if_neg e] at hj
      refine h'.2.2 (j, jx_cv SZ fa w) (List.mem_cons_of_mem _ (List.mem_filter.mpr ⟨jl_mem hj hw, ?_⟩))
      have e' : ¬ j = i := fun q => e q.symm
      have e1 : ¬ j = i + 1 := fun q => e0 q.symm
      have e2 : ¬ (j + 1 = i ∧ (jx_cv SZ fa w).category = 2) := by
        rintro ⟨q1, q2⟩
        rw [jx_cat] at q2
        refine hp ⟨by omega, ?_⟩
        have : i - 1 = j := by omega
        rw [this, hj]
        exact jl_isL q2
      simp only [Bool.and_eq_true, Bool.not_eq_true', beq_eq_false_iff_ne, ne_eq, e', e1, not_false_eq_true, true_and, Bool.and_eq_false_iff]
      by_cases q1 : j + 1 = i
      · exact Or.inr (fun q2 => e2 ⟨q1, q2⟩)
      · exact Or.inl q1
theorem jl_ix {i : Nat} {x : Int32} (hi : L[i]? = some (.int x)) : ∃ k : Nat, (jx_prs SZ fa L)[k]? = some (i, .int x) := by
  have h := jl_mem (SZ := SZ) (fa := fa) hi (fun q => by cases q)
  obtain ⟨k, hk⟩ := List.getElem?_of_mem h
  exact ⟨k, hk⟩
end JLs
/-! ===== what is known of the machine's tables, of what was there before ===== -/
/-- the words that stay under warmer tables -/
def jx_G : List Cond := lw_tbl.filter goodWord
theorem jx_mem {w : Cond} (p : Nat) (h : lw_tbl[p]? = some w) (hg : goodWord w = true) : w ∈ jx_G := List.mem_filter.mpr ⟨List.mem_of_getElem? h, hg⟩
theorem jx_good {w : Cond} (h : w ∈ jx_G) : (w.onTables && w.keeps) = true ∨ ∃ ty, w = .arrayClass ty := good_of_word (List.mem_filter.mp h).2
/-- which type an array's sort is -/
def jx_tyOf (t : Nat) : FieldType := match t with
  | 0 => .int
  | 1 => .char
  | 2 => .boolean
  | 3 => .long
  | 10 => .object jc_R0
  | _ => .object jc_R2
def jx_tys (cA : Nat → ClassId) : List (ClassId × FieldType) := [(cA 0, .int), (cA 1, .char), (cA 2, .boolean), (cA 3, .long), (cA 10, .object jc_R0), (cA 12, .object jc_R2)]
def jx_Kn (fa : Nat → Nat) (cA : Nat → ClassId) (D : va_G) (U : State) : Prop := va_K D jx_cl (jx_tys cA) U ∧ (∀ w ∈ jx_nest, va_Nw w U) ∧ va_AO jc_R0 U ∧ va_AO jc_R2 U ∧ ∀ q ∈ jx_strs, vk_R q.1 q.2.1 q.2.2.1 (fa q.2.2.2) U
def jx_fc (SZ : Nat) (fa : Nat → Nat) (j : Nat) (e : jx_C) (U : State) (Hp : Heap) : Prop := match e with
  | .inl (t, n, .inl f) => (t = 0 ∧ va_T .int (fa j) n (fun i => .int (f i)) (jx_A SZ) U Hp) ∨ (t = 4 ∧ va_T .byte (fa j) n (fun i => .int (f i)) (jx_A SZ) U Hp)
  | .inr (ci, [v, w]) => ci = 20 ∧ va_O "java/lang/String" (fa j) (jx_A SZ) U Hp ∧ va_OF "java/lang/String" "value" "[B" (jx_cv SZ fa v) (fa j) (jx_A SZ) U Hp ∧ va_OF "java/lang/String" "coder" "B" (jx_cv SZ fa w) (fa j) (jx_A SZ) U Hp
  | _ => False
def jx_FA (SZ : Nat) (fa : Nat → Nat) (F : jx_F) (U : State) (Hp : Heap) : Prop := (∀ (j : Nat) (e : jx_C), F.1[j]? = some e → jx_fc SZ fa j e U Hp) ∧ ∀ (j : Nat) (v : Value) (q : String × String × String), F.2[j]? = some v → jx_stt[j]? = some q → va_Z q.1 q.2.1 q.2.2 (jx_cv SZ fa v) (jx_A SZ) U Hp
section JKn
variable {SZ : Nat} {fa : Nat → Nat} {cA : Nat → ClassId} {D : va_G} {F : jx_F}
theorem jk_warm {s U : State} (hW : s.WarmedH U.vm) (h : jx_Kn fa cA D s) : jx_Kn fa cA D U := by
  obtain ⟨h1, h2, h3, h4, h5⟩ := h
  refine ⟨va_K.moved hW.alike h1, fun w hw => ?_, va_AO.moved hW.alike h3, va_AO.moved hW.alike h4, fun q hq => vk_R.warm hW (h5 q hq)⟩
  have hn := h2 w hw
  obtain ⟨a, i, b, n, d, g, rfl⟩ := jx_nestOk w hw
  exact va_Nw.warmF hW hn
theorem jf_moved {j : Nat} {e : jx_C} {u U : State} {H : Heap} (hvm : u.vm.Alike U.vm) (h : jx_fc SZ fa j e u H) : jx_fc SZ fa j e U H := by
  unfold jx_fc at h ⊢
  split at h
  · exact h.imp (fun q => ⟨q.1, va_T.moved hvm q.2⟩) (fun q => ⟨q.1, va_T.moved hvm q.2⟩)
  · exact ⟨h.1, va_O.moved hvm h.2.1, va_OF.moved hvm h.2.2.1, va_OF.moved hvm h.2.2.2⟩
  · exact h
theorem jf_kept {j : Nat} {e : jx_C} {U : State} {H H1 : Heap} (hq : ∀ a : Nat, a < H.size → ¬ jx_A SZ a → H1[a]? = H[a]?) (h : jx_fc SZ fa j e U H) : jx_fc SZ fa j e U H1 := by
  unfold jx_fc at h ⊢
  split at h
  · exact h.imp (fun q => ⟨q.1, q.2.kept hq⟩) (fun q => ⟨q.1, q.2.kept hq⟩)
  · exact ⟨h.1, h.2.1.kept hq, h.2.2.1.kept hq, h.2.2.2.kept hq⟩
  · exact h
theorem jF_moved {u U : State} {H : Heap} (hvm : u.vm.Alike U.vm) (h : jx_FA SZ fa F u H) : jx_FA SZ fa F U H := ⟨fun j e he => jf_moved hvm (h.1 j e he), fun j v q hv hq => va_Z.moved hvm (h.2 j v q hv hq)⟩
theorem jF_kept {U : State} {H H1 : Heap} (hq : ∀ a : Nat, a < H.size → ¬ jx_A SZ a → H1[a]? = H[a]?) (h : jx_FA SZ fa F U H) : jx_FA SZ fa F U H1 := ⟨fun j e he => jf_kept hq (h.1 j e he), fun j v q hv hq' => (h.2 j v q hv hq').kept hq⟩
theorem jt_ty {t : Nat} (h : t = 0 ∨ t = 1 ∨ t = 2 ∨ t = 3 ∨ jx_rs t = true) : ∃ t0 : Nat, (jx_tys cA)[t0]? = some (cA t, jx_tyOf t) := by
  rcases h with rfl | rfl | rfl | rfl | h
  · exact ⟨0, rfl⟩
  · exact ⟨1, rfl⟩
  · exact ⟨2, rfl⟩
  · exact ⟨3, rfl⟩
  · unfold jx_rs at h
    rcases Bool.or_eq_true_iff.mp h with h | h
    · cases Nat.eq_of_beq_eq_true h; exact ⟨4, rfl⟩
    · cases Nat.eq_of_beq_eq_true h; exact ⟨5, rfl⟩
end JKn
