/-! ===== what must be known of a pool's entry, of a class, of a method ===== -/
def jx_so (ty : FieldType) (t : Nat) : Prop := (t = 0 ∧ ty = .int) ∨ (t = 2 ∧ ty = .boolean) ∨ (t = 9 ∧ ((∃ n, ty = .object n) ∨ ∃ e, ty = .array e))
/-- a method's name, code, return type -/
abbrev jx_Y : Type := MethodName × ByteArray × Option FieldType
/-- how many parameters a method's descriptor has, and how many arguments it takes -/
def jx_okS (c : Nat) (y : MethodName) (k : Nat) : Prop := ∃ (np : Nat) (sg : Nat × Nat × Nat), jx_sig[c]? = some sg ∧ (parseMethodDescriptor y.desc).map (fun d => d.parameters.length) = some np ∧ sg.2.1 = np + k
def jx_okP (nm : List jx_Y) (own : String) (k : Nat) (q : jx_P) : Prop := match q with
  | (0, ci, j, _) => ∃ r : vw_C, jx_cl[ci]? = some r ∧ j < r.2.2 ∧ Cond.fieldLink own k (r.2.1 j).1 (r.2.1 j).2.1 (r.2.1 j).2.2.1 ∈ jx_G
  | (1, ci, j, _) => ∃ (r : vw_C) (host : String), jx_cl[ci]? = some r ∧ j < r.2.2 ∧ Cond.fieldLinkNest own k (r.2.1 j).1 (r.2.1 j).2.1 (r.2.1 j).2.2.1 host ∈ jx_nest
  | (2, ci, j, _) => ci = 20 ∧ ((j = 0 ∧ Cond.fieldLink own k "java/lang/String" "value" "[B" ∈ jx_G) ∨ (j = 1 ∧ Cond.fieldLink own k "java/lang/String" "coder" "B" ∈ jx_G))
  | (3, c, _, _) => ∃ y : jx_Y, nm[c]? = some y ∧ Cond.methodLink own k y.1 ∈ jx_G ∧ Cond.instanceMethod y.1 ∈ jx_G ∧ Cond.selects y.1.cls y.1 y.1 ∈ jx_G ∧ jx_okS c y.1 1
  | (4, _, _, _) => Cond.methodLink own k Lib.objectInit ∈ jx_G
  | (5, _, _, _) => Cond.methodLink own k arraycopyName ∈ jx_G
  | (6, ci, _, _) => ∃ r : vw_C, jx_cl[ci]? = some r ∧ Cond.classLink own k r.1 ∈ jx_G
  | (7, _, _, z) => Cond.constant own k (Int32.ofInt z) ∈ jx_G
  | (8, _, _, z) => Cond.constantLong own k (Int64.ofInt z) ∈ jx_G
  | (9, a, _, _) => ∃ tx : String, (own, k, tx, a) ∈ jx_strs
  | (10, a, _, _) => ∃ q : String × String × String, jx_stt[a]? = some q ∧ Cond.fieldLink own k q.1 q.2.1 q.2.2 ∈ jx_G
  | (11, c, _, _) => ∃ y : jx_Y, nm[c]? = some y ∧ Cond.methodLink own k y.1 ∈ jx_G ∧ Cond.static y.1 ∈ jx_G ∧ jx_okS c y.1 0
  | (12, c, _, _) => ∃ y : jx_Y, nm[c]? = some y ∧ Cond.methodLink own k y.1 ∈ jx_G ∧ Cond.instanceMethod y.1 ∈ jx_G ∧ y.1.name = "<init>" ∧ y.2.2 = none ∧ jx_okS c y.1 1
  | (14, _, _, _) => Cond.methodLink own k Lib.Math.max.name ∈ jx_G
  | (15, _, _, _) => Cond.methodLink own k Lib.Math.min.name ∈ jx_G
  | _ => True
def jx_okC (ci : Nat) (r : vw_C) : Prop := ∃ (ty : Nat → FieldType) (fs : List (Nat × Bool)), (∀ w ∈ u_ws r.1 r.2.1 r.2.2, w ∈ jx_G) ∧ (∀ k, k < r.2.2 → parseFieldDescriptor (r.2.1 k).2.2.1 = some (ty k)) ∧ (∀ a, a < r.2.2 → ∀ b, b < r.2.2 → a ≠ b → (r.2.1 a).2.1 ≠ (r.2.1 b).2.1) ∧
  jx_cls[ci]? = some fs ∧ fs.length = r.2.2 ∧ (∀ (k : Nat) (q : Nat × Bool), fs[k]? = some q → q.2 = (r.2.1 k).2.2.2 ∧ jx_so (ty k) q.1) ∧ Cond.instantiable r.1 r.2.2 ∈ jx_G ∧ Cond.initialized r.1 ∈ jx_G ∧ ∀ k, k < r.2.2 → (r.2.1 k).1 = r.1
/-- a class of the table, by its number -/
def jx_cno (ci : Nat) (own : String) : Prop := ∀ r : vw_C, jx_cl[ci]? = some r → r.1 = own
def jx_isT : Instr → Bool
  | .tableswitch .. => true
  | _ => false
def jx_dec (b : ByteArray) (code : List (Nat × Instr)) : Bool := code.all fun q => match decode b q.1 with
  | .ok (i, n) => decide (i = q.2) && (jx_isT i || Nat.beq n (jx_il i))
  | _ => false
def jx_dk (cc : ByteArray) (pc : Nat) (i : Instr) : Prop := ∃ n, decode cc pc = .ok (i, n) ∧ (jx_isT i = true ∨ n = jx_il i)
theorem jd_k {cc : ByteArray} {pc : Nat} {i : Instr} {n : Nat} (h : jx_dk cc pc i) (h1 : jx_isT i = false) (h2 : jx_il i = n) : decode cc pc = .ok (i, n) := by
  obtain ⟨k, hk, h3⟩ := h
  rcases h3 with h3 | h3
  · rw [h1] at h3; cases h3
  · rw [hk, h3, h2]
theorem jx_as_mem {α : Type} {l : List (Nat × α)} {k : Nat} {a : α} (h : jx_as l k = some a) : (k, a) ∈ l := by
  induction l with
  | nil => cases h
  | cons q r ih =>
    obtain ⟨q1, q2⟩ := q
    unfold jx_as at h
    cases hb : Nat.beq q1 k with
    | true =>
      rw [hb] at h
      cases Nat.eq_of_beq_eq_true hb
      cases h
      exact List.mem_cons_self
    | false => rw [hb] at h; exact List.mem_cons_of_mem _ (ih h)
theorem jx_dec_at {b : ByteArray} {code : List (Nat × Instr)} (h : jx_dec b code = true) {pc : Nat} {i : Instr} (hi : jx_as code pc = some i) : jx_dk b pc i := by
  have h1 := List.all_eq_true.mp h _ (jx_as_mem hi)
  dsimp only at h1
  split at h1
  · rename_i i' n hd
    obtain ⟨q1, q2⟩ := Bool.and_eq_true_iff.mp h1
    cases of_decide_eq_true q1
    refine ⟨n, hd, ?_⟩
    rcases Bool.or_eq_true_iff.mp q2 with q | q
    · exact Or.inl q
    · exact Or.inr (Nat.eq_of_beq_eq_true q)
  · cases h1
theorem js_fit {ty : FieldType} {t : Nat} {v : Value} {SZ : Nat} {fa : Nat → Nat} (h : jx_so ty t) (hv : jx_fit t v = true) : narrow ty (jx_cv SZ fa v) = jx_cv SZ fa v ∧ fits ty (jx_cv SZ fa v) = true := by
  rcases h with ⟨rfl, rfl⟩ | ⟨rfl, rfl⟩ | ⟨rfl, h⟩
  · cases v <;> first | exact ⟨rfl, rfl⟩ | (exfalso; revert hv; decide) | (simp [jx_fit] at hv)
  · cases v with
    | int x =>
      have hx : x = 0 ∨ x = 1 := by
        unfold jx_fit at hv
        simpa using hv
      rcases hx with rfl | rfl
      · exact ⟨(by decide : narrow .boolean (.int 0) = .int 0), (by decide : fits .boolean (.int 0) = true)⟩
      · exact ⟨(by decide : narrow .boolean (.int 1) = .int 1), (by decide : fits .boolean (.int 1) = true)⟩
    | _ => simp [jx_fit] at hv
  · cases v with
    | ref a => rcases h with ⟨n, rfl⟩ | ⟨e, rfl⟩ <;> exact ⟨rfl, rfl⟩
    | _ => simp [jx_fit] at hv
theorem js_dflt {ty : FieldType} {t : Nat} (h : jx_so ty t) : defaultValue ty = (bif Nat.beq t 9 then Value.null else Value.int 0) := by
  rcases h with ⟨rfl, rfl⟩ | ⟨rfl, rfl⟩ | ⟨rfl, ⟨n, rfl⟩ | ⟨e, rfl⟩⟩ <;> rfl
def jx_csz : jx_C → Nat
  | .inl (_, n, _) => n
  | .inr (_, fs) => fs.length
def jx_sz (h : jx_H) : Nat := (h.map jx_csz).sum
def jx_le (h h' : jx_H) : Prop := h.length ≤ h'.length ∧ jx_sz h ≤ jx_sz h'
theorem jx_le_rf {h : jx_H} : jx_le h h := ⟨Nat.le_refl _, Nat.le_refl _⟩
theorem jx_le_tr {a b c : jx_H} (h1 : jx_le a b) (h2 : jx_le b c) : jx_le a c := ⟨Nat.le_trans h1.1 h2.1, Nat.le_trans h1.2 h2.2⟩
theorem jx_sz_set {h : jx_H} {k : Nat} {e e0 : jx_C} (H : h[k]? = some e0) (hs : jx_csz e = jx_csz e0) : jx_sz (h.set k e) = jx_sz h := by
  induction h generalizing k with
  | nil => cases H
  | cons a t ih =>
    cases k with
    | zero =>
      cases H
      show (List.map jx_csz (e :: t)).sum = (List.map jx_csz (_ :: t)).sum
      rw [List.map_cons, List.map_cons, hs]
    | succ k =>
      have h2 := ih (k := k) H
      show (List.map jx_csz (a :: t.set k e)).sum = (List.map jx_csz (a :: t)).sum
      rw [List.map_cons, List.map_cons, List.sum_cons, List.sum_cons]
      unfold jx_sz at h2
      rw [h2]
theorem jx_sz_app {h : jx_H} {e : jx_C} : jx_sz (h ++ [e]) = jx_sz h + jx_csz e := by simp [jx_sz]
theorem jx_le_set {h : jx_H} {k : Nat} {e e0 : jx_C} (H : h[k]? = some e0) (hs : jx_csz e = jx_csz e0) : jx_le h (h.set k e) := ⟨by simp, by rw [jx_sz_set H hs]; exact Nat.le_refl _⟩
theorem jx_le_app {h : jx_H} {e : jx_C} : jx_le h (h ++ [e]) := ⟨by simp, by rw [jx_sz_app]; omega⟩
def jx_rto (rt : Nat) (ret : Option FieldType) : Prop := (rt = 0 ∧ ret = none) ∨ (rt = 1 ∧ ret = some .int) ∨ (rt = 2 ∧ ret = some .long) ∨ (rt = 3 ∧ ∃ n, ret = some (.object n)) ∨ (rt = 4 ∧ ret = some .boolean) ∨ (rt = 5 ∧ ret = some .char) ∨ (rt = 6 ∧ ret = some .byte)
def jx_okM (nm : List jx_Y) (c : Nat) (M : jx_M) (y : jx_Y) : Prop := plainName y.1.cls = true ∧ jx_dec y.2.1 M.2.2.2.2.2.2 = true ∧ (∀ q ∈ M.1, jx_okP nm y.1.cls q.1 q.2) ∧ jx_cno M.2.1 y.1.cls ∧ (M.2.1 = 20 → y.1.cls = "java/lang/String") ∧ Cond.code y.1 y.2.1 M.2.2.1 y.2.2 ∈ jx_G ∧ jx_rto M.2.2.2.2.1 y.2.2 ∧ (M.2.2.2.2.2.1 = true → y.1.name = "<init>") ∧ jx_sig[c]? = some (M.2.1, M.2.2.2.1, M.2.2.1) ∧ M.2.2.1 ≤ 19 ∧ Cond.initialized y.1.cls ∈ jx_G ∧ y.1.cls ≠ "java/lang/invoke/MethodHandle" ∧ y.1.cls ≠ "java/lang/invoke/VarHandle"
def jx_allM (nm : List jx_Y) : Nat → List jx_M → List jx_Y → Prop
  | c, M :: Ms, y :: ys => jx_okM nm c M y ∧ jx_allM nm (c + 1) Ms ys
  | _, _, _ => True
theorem jx_allM_at {nm : List jx_Y} : ∀ (Ms : List jx_M) (ys : List jx_Y) (c k : Nat) (M : jx_M) (y : jx_Y), jx_allM nm c Ms ys → Ms[k]? = some M → ys[k]? = some y → jx_okM nm (c + k) M y := by
  intro Ms
  induction Ms with
  | nil => intro ys c k M y _ h; cases h
  | cons A Ms ih =>
    intro ys c k M y h h1 h2
    cases ys with
    | nil => cases h2
    | cons b ys =>
      cases k with
      | zero => cases h1; cases h2; exact h.1
      | succ k =>
        have := ih ys (c + 1) k M y h.2 h1 h2
        rw [show c + (k + 1) = c + 1 + k by omega]
        exact this
