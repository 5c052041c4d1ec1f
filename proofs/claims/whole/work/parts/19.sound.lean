section JSound5
variable {SZ : Nat} {fa : Nat → Nat} {cA : Nat → ClassId} {D : va_G} {F : jx_F}
theorem jx_laySl (as : List Value) : (lg_sl (as.map (jx_cv SZ fa))).length = (jx_lay as).length ∧ ∀ (i : Nat) (v : Value), (jx_lay as)[i]? = some v → v ≠ jx_junk → (lg_sl (as.map (jx_cv SZ fa)))[i]? = some (.val (jx_cv SZ fa v)) := by
  induction as with
  | nil => exact ⟨rfl, fun i v h => by cases h⟩
  | cons a as ih =>
    have e1 : lg_sl ((a :: as).map (jx_cv SZ fa)) = (if (jx_cv SZ fa a).category = 2 then [.val (jx_cv SZ fa a), .second] else [.val (jx_cv SZ fa a)]) ++ lg_sl (as.map (jx_cv SZ fa)) := by
      simp [lg_sl]
    by_cases hc : a.category = 2
    · have e2 : jx_lay (a :: as) = a :: jx_junk :: jx_lay as := by
        show (bif Nat.beq a.category 2 then _ else _) = _
        rw [hc]; rfl
      rw [e1, e2, jx_cat, if_pos hc]
      refine ⟨by simp [ih.1], fun i v h hv => ?_⟩
      cases i with
      | zero => cases h; rfl
      | succ i =>
        cases i with
        | zero => cases h; exact absurd rfl hv
        | succ i => exact ih.2 i v h hv
    · have e2 : jx_lay (a :: as) = a :: jx_lay as := by
        show (bif Nat.beq a.category 2 then _ else _) = _
        have : Nat.beq a.category 2 = false := by
          cases hb : Nat.beq a.category 2 with
          | false => rfl
          | true => exact absurd (Nat.eq_of_beq_eq_true hb) hc
        rw [this]; rfl
      rw [e1, e2, jx_cat, if_neg hc]
      refine ⟨by simp [ih.1], fun i v h hv => ?_⟩
      cases i with
      | zero => cases h; rfl
      | succ i => exact ih.2 i v h hv
theorem jx_entL (M : jx_M) (as : List Value) (hl : (jx_lay as).length ≤ M.2.2.1) : jx_Lr SZ fa ((lg_sl (as.map (jx_cv SZ fa)) ++ List.replicate (M.2.2.1 - (lg_sl (as.map (jx_cv SZ fa))).length) Slot.unset).toArray) M.2.2.1 (jx_ent M as) := by
  obtain ⟨h1, h2⟩ := jx_laySl (SZ := SZ) (fa := fa) as
  obtain ⟨g1, g2, -⟩ := lv_entry (as.map (jx_cv SZ fa)) (n := M.2.2.1) (by rw [h1]; exact hl)
  refine ⟨g1, g2, by unfold jx_ent; simp; omega, fun i v hi hv => ?_⟩
  unfold jx_ent at hi
  by_cases hlt : i < (jx_lay as).length
  · rw [List.getElem?_append_left hlt] at hi
    have := h2 i v hi hv
    rw [List.getElem?_toArray, List.getElem?_append_left (by rw [h1]; exact hlt)]
    exact this
  · rw [List.getElem?_append_right (Nat.not_lt.mp hlt)] at hi
    have := List.mem_of_getElem? hi
    exact absurd (List.eq_of_mem_replicate this) hv
theorem jx_retW {n0 z0 : Nat} {nL : Nat} {cc : ByteArray} {M : jx_M} {ret : Option FieldType} {p : Program} {l : Launch} {e : Env} {R : Room} {s : State} {m : MethodId} {args : Array Value} {below : List Frame} {meth : Method} {c : Code} {v : Option Value} {hF : jx_H} {H : Heap} {locs : List Loc} {ls : Array Slot} {pc : Nat} {st : List Value} {i : Instr} {L : List Value}
    (hx : p.tables.exec = Jvm.exec) (hb : c.code = cc) (hrt : jx_rto M.2.2.2.2.1 ret) (hr : meth.sig.returnType = ret) (hlocks : meth.locks = false) (hi : jx_rets M st hF i = some (v, hF)) (hd : jx_dk cc pc i) (hR : jx_Rel SZ fa cA D nL s hF H locs ls L) :
    W p l e R s m args below meth c H locs (hF.length - n0) (jx_sz hF - z0) (MQ below (jx_Post SZ fa cA D v hF) args s (hF.length - n0) (jx_sz hF - z0) (jx_A SZ)) (F0 m pc ls (st.map (jx_cv SZ fa))) := by
  have hfree : ∀ q ∈ locs, jx_A SZ q.base := hR.2.1.2.2
  unfold jx_rets at hi
  split at hi
  · split at hi
    · rename_i w
      cases hb1 : jx_ret1 M.2.2.2.2.1 w with
      | false => rw [hb1] at hi; cases hi
      | true =>
        rw [hb1] at hi
        cases hi
        have hq : ∀ t : State, t.heap = H → s.WarmedH t.vm → jx_Post SZ fa cA D (some (.int w)) hF args s (.returned (some (.int w))) t := fun t ht _ => ⟨rfl, by rw [ht]; exact hR.1, hR.2.1.F ht⟩
        rcases hrt with ⟨q, q'⟩ | ⟨q, q'⟩ | ⟨q, q'⟩ | ⟨q, q'⟩ | ⟨q, q'⟩ | ⟨q, q'⟩ | ⟨q, q'⟩
        · rw [q] at hb1; cases hb1
        · exact W.iret (v := w) hx hb (hr.trans q') hq hfree (jd_k hd rfl rfl)
        · rw [q] at hb1; cases hb1
        · rw [q] at hb1; cases hb1
        · rw [q] at hb1
          have hw : w &&& 1 = w := of_decide_eq_true hb1
          exact W.zret (v := w) (ty := .boolean) hx hb (hr.trans q') (by show Value.int (w &&& 1) = _; rw [hw]) hq hfree (jd_k hd rfl rfl)
        · rw [q] at hb1
          have hw : vp_nar .char w = w := of_decide_eq_true hb1
          exact W.zret (v := w) (ty := .char) hx hb (hr.trans q') (by show Value.int (vp_nar .char w) = _; rw [hw]) hq hfree (jd_k hd rfl rfl)
        · rw [q] at hb1
          have hw : vp_nar .byte w = w := of_decide_eq_true hb1
          exact W.zret (v := w) (ty := .byte) hx hb (hr.trans q') (by show Value.int (vp_nar .byte w) = _; rw [hw]) hq hfree (jd_k hd rfl rfl)
    · cases hi
  · split at hi
    · rename_i w
      cases hb1 : Nat.beq M.2.2.2.2.1 2 with
      | false => rw [hb1] at hi; cases hi
      | true =>
        rw [hb1] at hi
        cases hi
        have hq : ∀ t : State, t.heap = H → s.WarmedH t.vm → jx_Post SZ fa cA D (some (.long w)) hF args s (.returned (some (.long w))) t := fun t ht _ => ⟨rfl, by rw [ht]; exact hR.1, hR.2.1.F ht⟩
        have h2 := Nat.eq_of_beq_eq_true hb1
        have q' : ret = some .long := by
          rcases hrt with ⟨q, q'⟩ | ⟨q, q'⟩ | ⟨q, q'⟩ | ⟨q, q'⟩ | ⟨q, q'⟩ | ⟨q, q'⟩ | ⟨q, q'⟩ <;> first | exact q' | (rw [q] at h2; cases h2)
        exact W.lret (v := w) hx hb (hr.trans q') hq hfree (jd_k hd rfl rfl)
    · cases hi
  · have key : ∀ w : Value, M.2.2.2.2.1 = 3 → v = some w → (∃ a, jx_cv SZ fa w = .ref a) → W p l e R s m args below meth c H locs (hF.length - n0) (jx_sz hF - z0) (MQ below (jx_Post SZ fa cA D v hF) args s (hF.length - n0) (jx_sz hF - z0) (jx_A SZ)) (F0 m pc ls [jx_cv SZ fa w]) := by
      intro w h2 hv hw
      have hq : ∀ t : State, t.heap = H → s.WarmedH t.vm → jx_Post SZ fa cA D v hF args s (.returned (some (jx_cv SZ fa w))) t := fun t ht _ => ⟨by rw [hv]; rfl, by rw [ht]; exact hR.1, hR.2.1.F ht⟩
      have q' : ∃ n, ret = some (.object n) := by
        rcases hrt with ⟨q, q'⟩ | ⟨q, q'⟩ | ⟨q, q'⟩ | ⟨q, q'⟩ | ⟨q, q'⟩ | ⟨q, q'⟩ | ⟨q, q'⟩ <;> first | exact q' | (rw [q] at h2; cases h2)
      obtain ⟨nn, q'⟩ := q'
      exact W.aret (v := jx_cv SZ fa w) hx hb (hr.trans q') (Or.inl ⟨nn, rfl⟩) (Or.inr hw) hq hfree (jd_k hd rfl rfl)
    split at hi
    · rename_i w
      cases hb1 : Nat.beq M.2.2.2.2.1 3 with
      | false => rw [hb1] at hi; cases hi
      | true =>
        rw [hb1] at hi
        cases hi
        exact key (.ref w) (Nat.eq_of_beq_eq_true hb1) rfl ⟨_, rfl⟩
    · rename_i w
      cases hb1 : Nat.beq M.2.2.2.2.1 3 with
      | false => rw [hb1] at hi; cases hi
      | true =>
        rw [hb1] at hi
        cases hi
        exact key (.retAddr w) (Nat.eq_of_beq_eq_true hb1) rfl ⟨_, rfl⟩
    · cases hi
  · split at hi
    · cases hb1 : Nat.beq M.2.2.2.2.1 0 with
      | false => rw [hb1] at hi; cases hi
      | true =>
        rw [hb1] at hi
        cases hi
        have hq : ∀ t : State, t.heap = H → s.WarmedH t.vm → jx_Post SZ fa cA D none hF args s (.returned none) t := fun t ht _ => ⟨rfl, by rw [ht]; exact hR.1, hR.2.1.F ht⟩
        have h2 := Nat.eq_of_beq_eq_true hb1
        have q' : ret = none := by
          rcases hrt with ⟨q, q'⟩ | ⟨q, q'⟩ | ⟨q, q'⟩ | ⟨q, q'⟩ | ⟨q, q'⟩ | ⟨q, q'⟩ | ⟨q, q'⟩ <;> first | exact q' | (rw [q] at h2; cases h2)
        exact W.vret hx hb (hr.trans q') hq hfree (jd_k hd rfl rfl)
    · cases hi
  · cases hi
/-- a method's body, by a run of the interpreter at a level whose calls are sound -/
theorem jx_metB {lv : Nat} {call : Nat → List Value → jx_H → Option (Option Value × jx_H)} {N cn : Nat} {M : jx_M} {y : jx_Y} {as : List Value} {h h1 : jx_H} {v : Option Value} (l : Launch)
    (hy : jx_nm[cn]? = some y) (hM : jx_tab cn = some M)
    (hcl : ∀ cn as h v h1, call cn as h = some (v, h1) → jx_nm[cn]? ≠ none → jx_le h h1)
    (hcall : ∀ cn as h v h1, call cn as h = some (v, h1) → ∃ lv', lv = lv' + 1 ∧ ∀ (y : jx_Y) (M' : jx_M), jx_nm[cn]? = some y → jx_tab cn = some M' → (jx_lay as).length ≤ M'.2.2.1 → jx_Mt l SZ fa cA D F lv' y M'.2.2.1 as h v h1)
    (hl : (jx_lay as).length ≤ M.2.2.1) (hg : jx_go call lv F M N 0 (jx_ent M as) [] h = some (v, h1)) : jx_Mt l SZ fa cA D F lv y M.2.2.1 as h v h1 := by
  obtain ⟨o1, o2, o3, o4, o5, o6, o7, o8, o9, o10, o11, o12, o13⟩ := jx_tabOk hM hy
  refine Met.ofW (cc := y.2.1) (maxL := M.2.2.1) (ret := y.2.2) o1 rfl ?_
  intro p e s m args below meth c s₁ B hml hv
  obtain ⟨rfl, hsz, hP, hKn, hFA⟩ := hv
  have hts := atoms_spec (ws := Cond.code y.1 y.2.1 M.2.2.1 y.2.2 :: jx_G) B.pre
  have C : jx_Ctx SZ h.length fa cA D F lv M.2.2.1 y.1.cls y.2.1 M.2.2.2.2.2.1 p (headSpec (Cond.code y.1 y.2.1 M.2.2.1 y.2.2 :: jx_G) (jx_room lv h h1)).room s m ((as.map (jx_cv SZ fa)).toArray) meth c :=
    ⟨B.exec, B.bytes, hml, fun w hw => hts w (List.mem_cons_of_mem _ hw), findClass_of_methodNamed B.named, hKn, hFA, hsz, Nat.le_refl _, Nat.le_refl _, fun q => (name_of_methodNamed B.named B.method).1.trans (o8 q)⟩
  rw [lg_entry_eq]
  have hR : jx_Rel SZ fa cA D M.2.2.1 s h s.heap [] ((lg_sl (as.map (jx_cv SZ fa)) ++ List.replicate (M.2.2.1 - (lg_sl (as.map (jx_cv SZ fa))).length) Slot.unset).toArray) (jx_ent M as) := ⟨hP, va_S.rf, jx_entL M as hl⟩
  have hW := jx_goW (Q := MQ below (jx_Post SZ fa cA D v h1) ((as.map (jx_cv SZ fa)).toArray) s (h1.length - h.length) (jx_sz h1 - jx_sz h) (jx_A SZ)) (below := below) (e := e) (z0 := jx_sz h) o3 o4 o2 C hcl hcall (Nat.le_refl _) (Nat.le_refl _)
    (fun pc L st H locs ls i hi hd hR => jx_retW B.exec B.bytes o7 B.returns B.notSynchronized hi hd hR) N 0 (jx_ent M as) [] h s.heap [] _ hg hR (Nat.le_refl _) (Nat.le_refl _)
  exact W.cs (by omega) (by omega) hW
theorem jx_runLe (N : Nat) : ∀ (lv cn : Nat) (as : List Value) (h : jx_H) (v : Option Value) (h1 : jx_H), jx_run F N lv cn as h = some (v, h1) → jx_nm[cn]? ≠ none → jx_le h h1 := by
  intro lv
  induction lv with
  | zero =>
    intro cn as h v h1 H hn
    unfold jx_run at H
    split at H
    · rename_i M hM
      cases hy : jx_nm[cn]? with
      | none => exact absurd hy hn
      | some y =>
        obtain ⟨o1, o2, o3, o4, -⟩ := jx_tabOk hM hy
        exact jx_goLe o3 o4 (fun _ _ _ _ _ q => by cases q) _ _ _ _ _ _ _ H
    · cases H
  | succ lv ih =>
    intro cn as h v h1 H hn
    unfold jx_run at H
    split at H
    · rename_i M hM
      cases hy : jx_nm[cn]? with
      | none => exact absurd hy hn
      | some y =>
        obtain ⟨o1, o2, o3, o4, -⟩ := jx_tabOk hM hy
        exact jx_goLe o3 o4 ih _ _ _ _ _ _ _ H
    · cases H
/-- THE INTERPRETER IS SOUND: a run of it is a contract of the machine's -/
theorem jx_met (l : Launch) (N : Nat) : ∀ (lv cn : Nat) (as : List Value) (h : jx_H) (v : Option Value) (h1 : jx_H), jx_run F N lv cn as h = some (v, h1) → ∀ (y : jx_Y) (M : jx_M), jx_nm[cn]? = some y → jx_tab cn = some M → (jx_lay as).length ≤ M.2.2.1 → jx_Mt l SZ fa cA D F lv y M.2.2.1 as h v h1 := by
  intro lv
  induction lv with
  | zero =>
    intro cn as h v h1 H y M hy hM hl
    unfold jx_run at H
    rw [hM] at H
    exact jx_metB l hy hM (fun _ _ _ _ _ q => by cases q) (fun _ _ _ _ _ q => by cases q) hl H
  | succ lv ih =>
    intro cn as h v h1 H y M hy hM hl
    unfold jx_run at H
    rw [hM] at H
    exact jx_metB l hy hM (jx_runLe N lv) (fun cn as h v h1 q => ⟨lv, rfl, fun y M' g1 g2 g3 => ih cn as h v h1 q y M' g1 g2 g3⟩) hl H
end JSound5
