section JSound3
variable {SZ : Nat} {fa : Nat → Nat} {cA : Nat → ClassId} {D : va_G} {F : jx_F} {lv nL : Nat} {own : String} {cc : ByteArray} {M : jx_M}
/-- a call of a method whose contract stands -/
theorem jx_callW {n0 z0 : Nat} {p : Program} {l : Launch} {e : Env} {R : Room} {s : State} {m : MethodId} {args : Array Value} {below : List Frame} {meth : Method} {c : Code} {H : Heap} {locs : List Loc} {ls : Array Slot} {Q : State → Prop} {ini : Bool} {i : Instr} {pc : Nat} {L st : List Value} {h h1 : jx_H} {cn : Nat} {as r : List Value} {v : Option Value}
    (hpool : ∀ q ∈ M.1, jx_okP jx_nm own q.1 q.2) (hi : jx_invs F M st h i = some (cn, as, r))
    (hle : jx_le h h1) (hMt : ∀ (y : jx_Y) (M' : jx_M), jx_nm[cn]? = some y → jx_tab cn = some M' → (jx_lay as).length ≤ M'.2.2.1 → jx_Mt l SZ fa cA D F lv y M'.2.2.1 as h v h1)
    (C : jx_Ctx SZ n0 fa cA D F (lv + 1) nL own cc ini p R s m args meth c) (hd : jx_dk cc pc i) (hR : jx_Rel SZ fa cA D nL s h H locs ls L) (hn : n0 ≤ h.length) (hz : z0 ≤ jx_sz h) (hc1 : h1.length - n0 ≤ R.cells) (hc2 : jx_sz h1 - z0 ≤ R.slots)
    (K : ∀ (H1 : Heap) (locs1 : List Loc), jx_Rel SZ fa cA D nL s h1 H1 locs1 ls L → W p l e R s m args below meth c H1 locs1 (h1.length - n0) (jx_sz h1 - z0) Q (F0 m (pc + 3) ls ((v.toList ++ r).map (jx_cv SZ fa)))) :
    W p l e R s m args below meth c H locs (h.length - n0) (jx_sz h - z0) Q (F0 m pc ls (st.map (jx_cv SZ fa))) := by
  refine jx_hs C.2.2.2.2.2.2.2.1 hn hR.1 hR.2.1 (fun hHs => ?_)
  obtain ⟨hx, hb, hml, hts, hown, hKn, hFA, hsz, hfr, hlo, hin⟩ := C
  have e1 : h.length - n0 + (h1.length - h.length) = h1.length - n0 := by have := hle.1; omega
  have e2 : jx_sz h - z0 + (jx_sz h1 - jx_sz h) = jx_sz h1 - z0 := by have := hle.2; omega
  have hf : h.length - n0 + (h1.length - h.length) ≤ R.cells ∧ jx_sz h - z0 + (jx_sz h1 - jx_sz h) ≤ R.slots := ⟨by rw [e1]; exact hc1, by rw [e2]; exact hc2⟩
  have K1 : ∀ (H1 : Heap) (locs1 : List Loc), va_P D jx_cl (jx_ws SZ fa cA h1) H1 → va_S (jx_A SZ) s.heap H1 locs1 → W p l e R s m args below meth c H1 locs1 (h.length - n0 + (h1.length - h.length)) (jx_sz h - z0 + (jx_sz h1 - jx_sz h)) Q (F0 m (pc + 3) ls ((v.map (jx_cv SZ fa)).toList ++ r.map (jx_cv SZ fa))) := by
    intro H1 locs1 g1 g2
    have k := W.cs e1 e2 (K H1 locs1 ⟨g1, g2, hR.2.2⟩)
    cases v with
    | none => exact k
    | some w => exact k
  have S : CallFix p m c cc nL s args jx_G own := ⟨hx, hb, hml, hown, hts⟩
  have hroom : ∀ mx : Nat, mx ≤ 19 → (jx_room lv h h1).frames + 1 ≤ R.frames ∧ 8 + (mx + 11) + (jx_room lv h h1).locals ≤ R.locals := fun mx hm => ⟨by show lv + 1 ≤ _; exact hfr, by show 8 + (mx + 11) + 38 * lv ≤ _; omega⟩
  have hcat : ∀ {rest : List Value}, jx_catS rest ≤ 8 → ((rest.map (jx_cv SZ fa)).map fun v => v.category).sum ≤ 8 := fun hq => by rw [jx_catM]; exact hq
  have hU : ∀ U : State, U.heap = H → s.WarmedH U.vm → jx_Pre SZ fa cA D F h U := fun U g1 g2 => jx_pre hHs hR.1 hR.2.1 hKn hFA g1 g2
  unfold jx_invs at hi
  split at hi
  · rename_i k
    split at hi
    · rename_i t c0 b zz hq
      cases ht : Nat.beq t 3 with
      | false => rw [ht] at hi; cases hi
      | true =>
        rw [ht] at hi
        have hok := hpool _ (jx_as_mem hq)
        cases Nat.eq_of_beq_eq_true ht
        obtain ⟨rfl, sg, h1', h2, h3, h4, h5, h6⟩ := jx_call_spec hi
        obtain ⟨y, hy, w1, w2, w3, np, sg', q1, q2, q3⟩ := hok
        cases h1'.symm.trans q1
        obtain ⟨M', hM'⟩ : ∃ M', jx_tab cn = some M' := jx_tabHas hy
        obtain ⟨o1, o2, o3, o4, o5, o6, o7, o8, o9, o10, o11, o12, o13⟩ := jx_tabOk hM' hy
        cases h1'.symm.trans o9
        have hMet := hMt y M' hy hM' h5
        obtain ⟨a, v0, As, rfl, hv0, hrec⟩ := jx_rcvOk (p := p) hKn hFA hR.1 hR.2.1 o4 o5 (h6 rfl)
        have hAs : (As.map (jx_cv SZ fa)).length = np := by rw [List.length_map]; have : As.length + 1 = np + 1 := h3.trans q3; omega
        have cw := cwV (R := R) (rm := jx_room lv h h1) (bytes := y.2.1) (maxL := M'.2.2.1) (ret := y.2.2) (C := y.1.cls) (own := own) (index := k) (y := y.1) (mc := h1.length - h.length) (ms := jx_sz h1 - jx_sz h) np hts (jx_GI (ws := wsV own k y.1.cls y.1 (Cond.code y.1 y.2.1 M'.2.2.1 y.2.2 :: jx_G)) (fun w hw => by
          rcases List.mem_append.mp hw with hw | hw
          · simp only [List.mem_cons, List.not_mem_nil, or_false] at hw
            rcases hw with rfl | rfl | rfl | rfl
            · exact w1
            · exact w2
            · exact w3
            · exact o11
          · rcases List.mem_cons.mp hw with rfl | hw
            · exact o6
            · exact hw)) rfl rfl rfl ⟨rfl, o12, o13, q2⟩ (hroom _ o10)
        have hp : PreV s H y.1.cls a (va_Pc ((v0 :: As).map (jx_cv SZ fa)) (jx_Pre SZ fa cA D F h)) (As.map (jx_cv SZ fa)) := ⟨jx_blind, hrec, fun U g1 g2 => ⟨by rw [List.map_cons, hv0], hU U g1 g2⟩⟩
        exact jx_callK (va_runV S hMet cw hp rfl hAs hR.2.2.1 (by show st.map (jx_cv SZ fa) = _; rw [h2, List.map_append, List.reverse_cons, List.map_append, List.map_reverse]; simp [hv0]) (lv_room (hcat h4)) (jd_k hd rfl rfl) hf) hR.2.1 K1
    · cases hi
  · rename_i k
    split at hi
    · rename_i t c0 b zz hq
      cases ht : Nat.beq t 11 with
      | false => rw [ht] at hi; cases hi
      | true =>
        rw [ht] at hi
        have hok := hpool _ (jx_as_mem hq)
        cases Nat.eq_of_beq_eq_true ht
        obtain ⟨rfl, sg, h1', h2, h3, h4, h5, h6⟩ := jx_call_spec hi
        obtain ⟨y, hy, w1, w2, np, sg', q1, q2, q3⟩ := hok
        cases h1'.symm.trans q1
        obtain ⟨M', hM'⟩ : ∃ M', jx_tab cn = some M' := jx_tabHas hy
        obtain ⟨o1, o2, o3, o4, o5, o6, o7, o8, o9, o10, o11, o12, o13⟩ := jx_tabOk hM' hy
        cases h1'.symm.trans o9
        have hMet := hMt y M' hy hM' h5
        have hAs : (as.map (jx_cv SZ fa)).length = np := by rw [List.length_map]; exact h3.trans q3
        have cw := va_cwS (R := R) (rm := jx_room lv h h1) (bytes := y.2.1) (maxL := M'.2.2.1) (ret := y.2.2) (own := own) (index := k) (y := y.1) (mc := h1.length - h.length) (ms := jx_sz h1 - jx_sz h) np hts (jx_GI (ws := va_wsS own k y.1 (Cond.code y.1 y.2.1 M'.2.2.1 y.2.2 :: jx_G)) (fun w hw => by
          rcases List.mem_append.mp hw with hw | hw
          · simp only [List.mem_cons, List.not_mem_nil, or_false] at hw
            rcases hw with rfl | rfl | rfl
            · exact w1
            · exact w2
            · exact o11
          · rcases List.mem_cons.mp hw with rfl | hw
            · exact o6
            · exact hw)) rfl rfl rfl ⟨o12, o13, q2⟩ (hroom _ o10)
        have hp : PreS s H (va_Pc (as.map (jx_cv SZ fa)) (jx_Pre SZ fa cA D F h)) (as.map (jx_cv SZ fa)) := ⟨jx_blind, fun U g1 g2 => ⟨rfl, hU U g1 g2⟩⟩
        exact jx_callK (va_runS S hMet cw hp rfl hAs hR.2.2.1 (by show st.map (jx_cv SZ fa) = _; rw [h2, List.map_append, List.map_reverse]) (lv_room (hcat h4)) (jd_k hd rfl rfl) hf) hR.2.1 K1
    · cases hi
  · rename_i k
    split at hi
    · rename_i t c0 b zz hq
      cases ht : Nat.beq t 12 with
      | false => rw [ht] at hi; cases hi
      | true =>
        rw [ht] at hi
        have hok := hpool _ (jx_as_mem hq)
        cases Nat.eq_of_beq_eq_true ht
        obtain ⟨rfl, sg, h1', h2, h3, h4, h5, h6⟩ := jx_call_spec hi
        obtain ⟨y, hy, w1, w2, w3, w4, np, sg', q1, q2, q3⟩ := hok
        cases h1'.symm.trans q1
        obtain ⟨M', hM'⟩ : ∃ M', jx_tab cn = some M' := jx_tabHas hy
        obtain ⟨o1, o2, o3, o4, o5, o6, o7, o8, o9, o10, o11, o12, o13⟩ := jx_tabOk hM' hy
        cases h1'.symm.trans o9
        have hMet := hMt y M' hy hM' h5
        obtain ⟨a, v0, As, rfl, hv0, hrec⟩ := jx_rcvOk (p := p) hKn hFA hR.1 hR.2.1 o4 o5 (h6 rfl)
        have hAs : (As.map (jx_cv SZ fa)).length = np := by rw [List.length_map]; have : As.length + 1 = np + 1 := h3.trans q3; omega
        have cw := cwI (R := R) (rm := jx_room lv h h1) (bytes := y.2.1) (maxL := M'.2.2.1) (own := own) (index := k) (y := y.1) (ws := Cond.code y.1 y.2.1 M'.2.2.1 y.2.2 :: jx_G) (ws' := jx_G) (mc := h1.length - h.length) (ms := jx_sz h1 - jx_sz h) np hts (jx_GI (fun w hw => by
          rcases List.mem_cons.mp hw with rfl | hw
          · exact o6
          · exact hw)) (by rw [w4]) rfl rfl (hts _ o11) (hts _ w1) (hts _ w2) w3 ⟨o12, o13, q2⟩ (hroom _ o10)
        have hp : PreS s H (va_Pc ((v0 :: As).map (jx_cv SZ fa)) (jx_Pre SZ fa cA D F h)) (.ref a :: As.map (jx_cv SZ fa)) := ⟨jx_blind, fun U g1 g2 => ⟨by rw [List.map_cons, hv0], hU U g1 g2⟩⟩
        exact jx_callK (va_runI S hMet cw hp rfl hAs hR.2.2.1 (by show st.map (jx_cv SZ fa) = _; rw [h2, List.map_append, List.reverse_cons, List.map_append, List.map_reverse]; simp [hv0]) (lv_room (hcat h4)) (jd_k hd rfl rfl) hf) hR.2.1 K1
    · cases hi
  · cases hi
theorem jx_invN {h : jx_H} {st : List Value} {i : Instr} {cn : Nat} {as r : List Value} (hpool : ∀ q ∈ M.1, jx_okP jx_nm own q.1 q.2) (hi : jx_invs F M st h i = some (cn, as, r)) : jx_nm[cn]? ≠ none := by
  unfold jx_invs at hi
  split at hi
  · split at hi
    · rename_i t c0 b zz hq
      cases ht : Nat.beq t 3 with
      | false => rw [ht] at hi; cases hi
      | true =>
        rw [ht] at hi
        have hok := hpool _ (jx_as_mem hq)
        cases Nat.eq_of_beq_eq_true ht
        obtain ⟨rfl, -⟩ := jx_call_spec hi
        obtain ⟨y, hy, -⟩ := hok
        rw [hy]; exact fun q => by cases q
    · cases hi
  · split at hi
    · rename_i t c0 b zz hq
      cases ht : Nat.beq t 11 with
      | false => rw [ht] at hi; cases hi
      | true =>
        rw [ht] at hi
        have hok := hpool _ (jx_as_mem hq)
        cases Nat.eq_of_beq_eq_true ht
        obtain ⟨rfl, -⟩ := jx_call_spec hi
        obtain ⟨y, hy, -⟩ := hok
        rw [hy]; exact fun q => by cases q
    · cases hi
  · split at hi
    · rename_i t c0 b zz hq
      cases ht : Nat.beq t 12 with
      | false => rw [ht] at hi; cases hi
      | true =>
        rw [ht] at hi
        have hok := hpool _ (jx_as_mem hq)
        cases Nat.eq_of_beq_eq_true ht
        obtain ⟨rfl, -⟩ := jx_call_spec hi
        obtain ⟨y, hy, -⟩ := hok
        rw [hy]; exact fun q => by cases q
    · cases hi
  · cases hi
end JSound3
