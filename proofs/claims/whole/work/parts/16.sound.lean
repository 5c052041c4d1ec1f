section JSound2
variable {SZ : Nat} {fa : Nat → Nat} {cA : Nat → ClassId} {D : va_G} {F : jx_F} {lv nL : Nat} {own : String} {cc : ByteArray} {M : jx_M}
/-- a method's contract out of a run of the interpreter -/
def jx_Pre (SZ : Nat) (fa : Nat → Nat) (cA : Nat → ClassId) (D : va_G) (F : jx_F) (h : jx_H) (U : State) : Prop := U.heap.size = SZ + h.length ∧ va_P D jx_cl (jx_ws SZ fa cA h) U.heap ∧ jx_Kn fa cA D U ∧ jx_FA SZ fa F U U.heap
def jx_Post (SZ : Nat) (fa : Nat → Nat) (cA : Nat → ClassId) (D : va_G) (v : Option Value) (h1 : jx_H) : Array Value → State → Outcome → State → Prop := fun _ st0 o t => o = .returned (v.map (jx_cv SZ fa)) ∧ va_P D jx_cl (jx_ws SZ fa cA h1) t.heap ∧ va_F (jx_A SZ) st0 t
def jx_room (lv : Nat) (h h1 : jx_H) : Room := { frames := lv, cells := h1.length - h.length, slots := jx_sz h1 - jx_sz h, locals := 38 * lv }
def jx_Mt (l : Launch) (SZ : Nat) (fa : Nat → Nat) (cA : Nat → ClassId) (D : va_G) (F : jx_F) (lv : Nat) (y : jx_Y) (mx : Nat) (as : List Value) (h : jx_H) (v : Option Value) (h1 : jx_H) : Prop :=
  Met l y.1 (Cond.code y.1 y.2.1 mx y.2.2 :: jx_G) (jx_room lv h h1) (va_Pc (as.map (jx_cv SZ fa)) (jx_Pre SZ fa cA D F h)) (jx_Post SZ fa cA D v h1) (h1.length - h.length) (jx_sz h1 - jx_sz h) (jx_A SZ)
theorem jx_take_spec : ∀ (n : Nat) (st acc as r : List Value), jx_take n st acc = some (as, r) → ∃ pre, st = pre ++ r ∧ as = pre.reverse ++ acc ∧ pre.length = n := by
  intro n
  induction n with
  | zero =>
    intro st acc as r h
    cases h
    exact ⟨[], rfl, rfl, rfl⟩
  | succ n ih =>
    intro st acc as r h
    cases st with
    | nil => cases h
    | cons v st =>
      obtain ⟨pre, h1, h2, h3⟩ := ih st (v :: acc) as r h
      exact ⟨v :: pre, by rw [h1]; rfl, by rw [h2]; simp, by rw [List.length_cons, h3]⟩
theorem jx_call_spec {h : jx_H} {st : List Value} {rc : Bool} {c c' : Nat} {as r : List Value} (H : jx_call F h st rc c = some (c', as, r)) : c' = c ∧ ∃ sg : Nat × Nat × Nat, jx_sig[c]? = some sg ∧ st = as.reverse ++ r ∧ as.length = sg.2.1 ∧ jx_catS r ≤ 8 ∧ (jx_lay as).length ≤ sg.2.2 ∧ (rc = true → jx_rcv F h sg.1 as = true) := by
  unfold jx_call at H
  split at H
  · rename_i cl n mx hs
    split at H
    · rename_i as' r' ht
      cases hb : ((Nat.ble (jx_catS r') 8 && Nat.ble (jx_lay as').length mx) && (!rc || jx_rcv F h cl as')) with
      | false => rw [hb] at H; cases H
      | true =>
        rw [hb] at H
        cases H
        obtain ⟨pre, h1, h2, h3⟩ := jx_take_spec _ _ _ _ _ ht
        obtain ⟨q1, q2⟩ := Bool.and_eq_true_iff.mp hb
        obtain ⟨q3, q4⟩ := Bool.and_eq_true_iff.mp q1
        rw [List.append_nil] at h2
        refine ⟨rfl, _, hs, by rw [h1, h2, List.reverse_reverse], by rw [h2, List.length_reverse, h3], Nat.le_of_ble_eq_true q3, Nat.le_of_ble_eq_true q4, fun hr => ?_⟩
        rw [hr] at q2
        exact q2
    · cases H
  · cases H
theorem jk_same {u U : State} (hv : u.vm = U.vm) (h : jx_Kn fa cA D u) : jx_Kn fa cA D U := by
  obtain ⟨h1, h2, h3, h4, h5⟩ := h
  have ha : u.vm.Alike U.vm := hv ▸ Vm.Alike.refl _
  refine ⟨va_K.moved ha h1, fun w hw => ?_, va_AO.moved ha h3, va_AO.moved ha h4, fun q hq => vk_R.same hv.symm (h5 q hq)⟩
  have hn := h2 w hw
  obtain ⟨a, i, b, n, d, g, rfl⟩ := jx_nestOk w hw
  exact va_Nw.same rfl hv hn
theorem jx_blind {as : List Value} {h : jx_H} : FrameBlind (va_Pc as (jx_Pre SZ fa cA D F h)) := by
  intro a U g mk q
  obtain ⟨q0, q1, q2, q3, q4⟩ := q
  have hv : U.vm = (U.calling g mk a).vm := rfl
  have hh : (U.calling g mk a).heap = U.heap := rfl
  refine ⟨q0, by rw [hh]; exact q1, by rw [hh]; exact q2, jk_same hv q3, by rw [hh]; exact jF_moved (hv ▸ Vm.Alike.refl _) q4⟩
section JC
variable {p : Program} {l : Launch} {e : Env} {R : Room} {s : State} {m : MethodId} {args : Array Value} {below : List Frame} {meth : Method} {c : Code} {H : Heap} {locs : List Loc} {cells slots mc ms : Nat} {Q : State → Prop} {ls : Array Slot} {rest st0 : List Value} {pc : Nat} {v : Option Value} {h1 : jx_H} {a : Array Value}
theorem jx_callK (hr : va_Run p l e R s m args below meth c H locs cells slots mc ms (F0 m pc ls st0) rest (jx_Post SZ fa cA D v h1 a) (jx_A SZ)) (hS : va_S (jx_A SZ) s.heap H locs)
    (kk : ∀ (H1 : Heap) (locs1 : List Loc), va_P D jx_cl (jx_ws SZ fa cA h1) H1 → va_S (jx_A SZ) s.heap H1 locs1 → W p l e R s m args below meth c H1 locs1 (cells + mc) (slots + ms) Q (F0 m (pc + 3) ls ((v.map (jx_cv SZ fa)).toList ++ rest))) : W p l e R s m args below meth c H locs cells slots Q (F0 m pc ls st0) := by
  intro T hT X
  obtain ⟨v', st₀, t, T', L, h0, X', hL, e1, e2, ⟨hv, hP1, hz, hk⟩, st⟩ := hr T hT X
  cases hv
  rw [h0] at hz hk
  obtain ⟨t2, a1, b1⟩ := kk T'.heap (locs ++ L) (by rw [e1]; exact hP1) ⟨Nat.le_trans hS.1 (by rw [e1]; exact hz), fun q g1 g2 => by rw [e1, hk q (Nat.lt_of_lt_of_le g1 hS.1) g2]; exact hS.2.1 q g1 g2, fun q hq => by
      rcases List.mem_append.mp hq with g | g
      · exact hS.2.2 q g
      · exact hL q g⟩ T' rfl X'
  exact ⟨t2, st t2 a1, b1⟩
end JC
/-- what a callee finds -/
theorem jx_pre {s U : State} {H : Heap} {locs : List Loc} {h : jx_H} (hs : H.size = SZ + h.length) (hP : va_P D jx_cl (jx_ws SZ fa cA h) H) (hS : va_S (jx_A SZ) s.heap H locs) (hKn : jx_Kn fa cA D s) (hFA : jx_FA SZ fa F s s.heap) (hU : U.heap = H) (hW : s.WarmedH U.vm) : jx_Pre SZ fa cA D F h U := by
  refine ⟨by rw [hU]; exact hs, by rw [hU]; exact hP, jk_warm hW hKn, ?_⟩
  rw [hU]
  exact jF_moved hW.alike (jF_kept hS.2.1 hFA)
theorem jx_GI {ws : List Cond} (hw : ∀ w ∈ ws, w ∈ jx_G) : GoodIn jx_G ws := fun w h => ⟨hw w h, jx_good (hw w h)⟩
theorem jx_rcvOk {p : Program} {s : State} {H : Heap} {locs : List Loc} {h : jx_H} {cl : Nat} {cn : String} {as : List Value} (hKn : jx_Kn fa cA D s) (hFA : jx_FA SZ fa F s s.heap) (hP : va_P D jx_cl (jx_ws SZ fa cA h) H) (hS : va_S (jx_A SZ) s.heap H locs) (hcn : jx_cno cl cn) (h20 : cl = 20 → cn = "java/lang/String") (hr : jx_rcv F h cl as = true) :
    ∃ (a : Nat) (v : Value) (As : List Value), as = v :: As ∧ jx_cv SZ fa v = .ref a ∧ ∃ cellB : Cell, H[a]? = some cellB ∧ cellB.vm.isStatics = false ∧ s.vm.findClass cn = some cellB.cls := by
  unfold jx_rcv at hr
  split at hr
  · rename_i a As
    split at hr
    · rename_i c' fs hc
      cases Nat.eq_of_beq_eq_true hr
      obtain ⟨r, hcl, -⟩ := hP a _ (jw_get hc)
      have hrc := va_recv hKn.1 hP hcl (jw_get hc)
      have hcl : jx_cl[_]? = some r := hcl
      rw [hcn r hcl] at hrc
      exact ⟨SZ + a, .ref a, As, rfl, rfl, hrc⟩
    · cases hr
  · rename_i j As
    split at hr
    · rename_i c' fs hc
      cases Nat.eq_of_beq_eq_true hr
      have hf := hFA.1 j _ hc
      match fs, hf with
      | [v0, w0], hf =>
        obtain ⟨h0, ⟨cell, g1, g2, g3, g4⟩, -⟩ := hf
        rw [h20 h0]
        exact ⟨fa j, .retAddr j, As, rfl, rfl, cell, by rw [hS.2.1 _ (Array.getElem?_eq_some_iff.mp g1).1 g4]; exact g1, g2, g3⟩
      | [], hf => exact hf.elim
      | [_], hf => exact hf.elim
      | _ :: _ :: _ :: _, hf => exact hf.elim
    · cases hr
  · cases hr
end JSound2
