section JSound4
variable {SZ : Nat} {fa : Nat → Nat} {cA : Nat → ClassId} {D : va_G} {F : jx_F} {lv nL : Nat} {own : String} {cc : ByteArray} {M : jx_M}
theorem jx_stepI {call : Nat → List Value → jx_H → Option (Option Value × jx_H)} {pc : Nat} {L st : List Value} {h : jx_H} {z : jx_S} (H : jx_step call lv F M pc L st h = some (.inl z)) :
    ∃ i, jx_as M.2.2.2.2.2.2 pc = some i ∧ ((∃ c as r v h', jx_invs F M st h i = some (c, as, r) ∧ call c as h = some (v, h') ∧ z = (pc + 3, L, v.toList ++ r, h')) ∨ jx_ins lv F M pc L st h i = some (.inr (.inl z))) := by
  unfold jx_step at H
  split at H
  · rename_i c as r hp
    split at H
    · rename_i v h' hc
      cases H
      unfold jx_prep at hp
      split at hp
      · rename_i i hi
        split at hp
        · cases hp
        · split at hp
          · rename_i q hq
            cases hp
            exact ⟨i, hi, Or.inl ⟨c, as, r, v, h', hq, hc, rfl⟩⟩
          · split at hp <;> cases hp
      · cases hp
    · cases H
  · rename_i x hp
    cases H
    unfold jx_prep at hp
    split at hp
    · rename_i i hi
      split at hp
      · cases hp
      · split at hp
        · cases hp
        · split at hp
          · rename_i z' hz
            cases hp
            exact ⟨i, hi, Or.inr hz⟩
          · cases hp
    · cases hp
  · cases H
theorem jx_stepR {call : Nat → List Value → jx_H → Option (Option Value × jx_H)} {pc : Nat} {L st : List Value} {h : jx_H} {r : Option Value × jx_H} (H : jx_step call lv F M pc L st h = some (.inr r)) : ∃ i, jx_as M.2.2.2.2.2.2 pc = some i ∧ jx_rets M st h i = some r := by
  unfold jx_step at H
  split at H
  · split at H <;> cases H
  · rename_i x hp
    cases H
    unfold jx_prep at hp
    split at hp
    · rename_i i hi
      split at hp
      · rename_i r' hr
        cases hp
        exact ⟨i, hi, hr⟩
      · split at hp
        · cases hp
        · split at hp
          · cases hp
          · cases hp
    · cases hp
  · cases H
theorem jx_retsH {st : List Value} {h : jx_H} {i : Instr} {r : Option Value × jx_H} (H : jx_rets M st h i = some r) : r.2 = h := by
  unfold jx_rets at H
  split at H
  · split at H
    · cases hb : jx_ret1 M.2.2.2.2.1 _ <;> rw [hb] at H <;> cases H; rfl
    · cases H
  · split at H
    · cases hb : Nat.beq M.2.2.2.2.1 2 <;> rw [hb] at H <;> cases H; rfl
    · cases H
  · split at H
    · cases hb : Nat.beq M.2.2.2.2.1 3 <;> rw [hb] at H <;> cases H; rfl
    · cases hb : Nat.beq M.2.2.2.2.1 3 <;> rw [hb] at H <;> cases H; rfl
    · cases H
  · split at H
    · cases hb : Nat.beq M.2.2.2.2.1 0 <;> rw [hb] at H <;> cases H; rfl
    · cases H
  · cases H
theorem jx_goLe {call : Nat → List Value → jx_H → Option (Option Value × jx_H)} (hpool : ∀ q ∈ M.1, jx_okP jx_nm own q.1 q.2) (hcn : jx_cno M.2.1 own) (hcl : ∀ c as h v h1, call c as h = some (v, h1) → jx_nm[c]? ≠ none → jx_le h h1) :
    ∀ (n pc : Nat) (L st : List Value) (h : jx_H) (v : Option Value) (hF : jx_H), jx_go call lv F M n pc L st h = some (v, hF) → jx_le h hF := by
  intro n
  induction n with
  | zero => intro pc L st h v hF H; cases H
  | succ n ih =>
    intro pc L st h v hF H
    unfold jx_go at H
    split at H
    · rename_i pc' L' st' h' hs
      obtain ⟨i, hi, hz⟩ := jx_stepI hs
      have h2 := ih _ _ _ _ _ _ H
      rcases hz with ⟨c, as, r, v', h'', q1, q2, q3⟩ | hz
      · cases q3
        refine jx_le_tr (hcl _ _ _ _ _ q2 ?_) h2
        exact jx_invN hpool q1
      · exact jx_le_tr (jx_arm (SZ := 0) (fa := id) (cA := id) (D := (id, fun _ => id)) (nL := 0) (cc := ByteArray.empty) hpool hcn hz).1 h2
    · rename_i r hs
      cases H
      obtain ⟨i, hi, hr⟩ := jx_stepR hs
      have := jx_retsH hr
      rw [← this]
      exact jx_le_rf
    · cases H
theorem jx_goW {call : Nat → List Value → jx_H → Option (Option Value × jx_H)} (hpool : ∀ q ∈ M.1, jx_okP jx_nm own q.1 q.2) (hcn : jx_cno M.2.1 own) (hdec : jx_dec cc M.2.2.2.2.2.2 = true)
    {n0 z0 : Nat} {p : Program} {l : Launch} {e : Env} {R : Room} {s : State} {m : MethodId} {args : Array Value} {below : List Frame} {meth : Method} {c : Code} {Q : State → Prop} {v : Option Value} {hF : jx_H}
    (C : jx_Ctx SZ n0 fa cA D F lv nL own cc M.2.2.2.2.2.1 p R s m args meth c)
    (hcl : ∀ cn as h v h1, call cn as h = some (v, h1) → jx_nm[cn]? ≠ none → jx_le h h1)
    (hcall : ∀ cn as h v h1, call cn as h = some (v, h1) → ∃ lv', lv = lv' + 1 ∧ ∀ (y : jx_Y) (M' : jx_M), jx_nm[cn]? = some y → jx_tab cn = some M' → (jx_lay as).length ≤ M'.2.2.1 → jx_Mt l SZ fa cA D F lv' y M'.2.2.1 as h v h1)
    (hc1 : hF.length - n0 ≤ R.cells) (hc2 : jx_sz hF - z0 ≤ R.slots)
    (hret : ∀ (pc : Nat) (L st : List Value) (H : Heap) (locs : List Loc) (ls : Array Slot) (i : Instr), jx_rets M st hF i = some (v, hF) → jx_dk cc pc i → jx_Rel SZ fa cA D nL s hF H locs ls L → W p l e R s m args below meth c H locs (hF.length - n0) (jx_sz hF - z0) Q (F0 m pc ls (st.map (jx_cv SZ fa)))) :
    ∀ (n pc : Nat) (L st : List Value) (h : jx_H) (H : Heap) (locs : List Loc) (ls : Array Slot), jx_go call lv F M n pc L st h = some (v, hF) → jx_Rel SZ fa cA D nL s h H locs ls L → n0 ≤ h.length → z0 ≤ jx_sz h →
      W p l e R s m args below meth c H locs (h.length - n0) (jx_sz h - z0) Q (F0 m pc ls (st.map (jx_cv SZ fa))) := by
  intro n
  induction n with
  | zero => intro pc L st h H locs ls hg; cases hg
  | succ n ih =>
    intro pc L st h H locs ls hg hR hn hz
    unfold jx_go at hg
    split at hg
    · rename_i pc' L' st' h' hs
      obtain ⟨i, hi, hzz⟩ := jx_stepI hs
      have hd := jx_dec_at hdec hi
      have hle := jx_goLe hpool hcn hcl _ _ _ _ _ _ _ hg
      have d1 : h'.length - n0 ≤ R.cells := by have := hle.1; omega
      have d2 : jx_sz h' - z0 ≤ R.slots := by have := hle.2; omega
      rcases hzz with ⟨cn, as, r, v', h'', q1, q2, q3⟩ | hzz
      · cases q3
        obtain ⟨lv', rfl, hMt⟩ := hcall _ _ _ _ _ q2
        have hl1 := hcl _ _ _ _ _ q2 (jx_invN hpool q1)
        exact jx_callW hpool q1 hl1 hMt C hd hR hn hz d1 d2 (fun H1 locs1 hR1 => ih _ _ _ _ _ _ _ hg hR1 (Nat.le_trans hn hl1.1) (Nat.le_trans hz hl1.2))
      · have hA := jx_arm (SZ := SZ) (fa := fa) (cA := cA) (D := D) (nL := nL) (cc := cc) hpool hcn hzz
        exact hA.2 n0 z0 p l e R s m args below meth c H locs ls Q C hd hR hn hz d1 d2 (fun H1 locs1 ls1 hR1 => ih _ _ _ _ _ _ _ hg hR1 (Nat.le_trans hn hA.1.1) (Nat.le_trans hz hA.1.2))
    · rename_i r hs
      cases hg
      obtain ⟨i, hi, hr⟩ := jx_stepR hs
      have e := jx_retsH hr
      have e : hF = h := e
      subst e
      exact hret pc L st H locs ls i hr (jx_dec_at hdec hi) hR
    · cases hg
end JSound4
