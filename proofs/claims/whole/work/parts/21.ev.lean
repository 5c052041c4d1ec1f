/-! ===== runs without fuel ===== -/
abbrev jx_Q : Type := Option Value × jx_H
def jx_clv (F : jx_F) (N : Nat) : Nat → Nat → List Value → jx_H → Option jx_Q
  | 0 => fun _ _ _ => none
  | lv + 1 => jx_run F N lv
theorem jx_run_eq (F : jx_F) (N lv c : Nat) (as : List Value) (h : jx_H) : jx_run F N lv c as h = (match jx_tab c with
    | some M => jx_go (jx_clv F N lv) lv F M N 0 (jx_ent M as) [] h
    | none => none) := by
  cases lv <;> rfl
section JEv
variable {F : jx_F} {lv : Nat} {M : jx_M}
theorem jx_step_mono {call call' : Nat → List Value → jx_H → Option jx_Q} (hc : ∀ c as h r, call c as h = some r → call' c as h = some r) {pc : Nat} {L st : List Value} {h : jx_H} {x : jx_S ⊕ jx_Q} (H : jx_step call lv F M pc L st h = some x) : jx_step call' lv F M pc L st h = some x := by
  unfold jx_step at H ⊢
  split at H
  · split at H
    · rename_i c as r _ v h' hcl
      rw [hc _ _ _ _ hcl]
      exact H
    · cases H
  · exact H
  · cases H
theorem jx_go_mono {call call' : Nat → List Value → jx_H → Option jx_Q} (hc : ∀ c as h r, call c as h = some r → call' c as h = some r) : ∀ (n n' pc : Nat) (L st : List Value) (h : jx_H) (r : jx_Q), n ≤ n' → jx_go call lv F M n pc L st h = some r → jx_go call' lv F M n' pc L st h = some r := by
  intro n
  induction n with
  | zero => intro n' pc L st h r _ H; cases H
  | succ n ih =>
    intro n' pc L st h r hn H
    cases n' with
    | zero => omega
    | succ n' =>
      unfold jx_go at H ⊢
      split at H
      · rename_i pc' L' st' h' hs
        rw [jx_step_mono hc hs]
        exact ih n' _ _ _ _ _ (by omega) H
      · rename_i r' hs
        rw [jx_step_mono hc hs]
        exact H
      · cases H
theorem jx_run_mono : ∀ (lv N N' c : Nat) (as : List Value) (h : jx_H) (r : jx_Q), N ≤ N' → jx_run F N lv c as h = some r → jx_run F N' lv c as h = some r := by
  intro lv
  induction lv with
  | zero =>
    intro N N' c as h r hn H
    rw [jx_run_eq] at H ⊢
    split at H
    · exact jx_go_mono (fun _ _ _ _ q => q) _ _ _ _ _ _ _ hn H
    · cases H
  | succ lv ih =>
    intro N N' c as h r hn H
    rw [jx_run_eq] at H ⊢
    split at H
    · exact jx_go_mono (fun c as h r q => ih N N' c as h r hn q) _ _ _ _ _ _ _ hn H
    · cases H
theorem jx_clv_mono {N N' : Nat} (hn : N ≤ N') : ∀ (c : Nat) (as : List Value) (h : jx_H) (r : jx_Q), jx_clv F N lv c as h = some r → jx_clv F N' lv c as h = some r := by
  intro c as h r H
  cases lv with
  | zero => cases H
  | succ lv => exact jx_run_mono lv N N' c as h r hn H
def jx_Ev (F : jx_F) (lv : Nat) (M : jx_M) (pc : Nat) (L st : List Value) (h : jx_H) (r : jx_Q) : Prop := ∃ N n, jx_go (jx_clv F N lv) lv F M n pc L st h = some r
def jx_Rn (F : jx_F) (lv c : Nat) (as : List Value) (h : jx_H) (r : jx_Q) : Prop := ∃ N, jx_run F N lv c as h = some r
theorem jx_Ev_uniq {pc : Nat} {L st : List Value} {h : jx_H} {r r' : jx_Q} (h1 : jx_Ev F lv M pc L st h r) (h2 : jx_Ev F lv M pc L st h r') : r = r' := by
  obtain ⟨N, n, h1⟩ := h1
  obtain ⟨N', n', h2⟩ := h2
  have a := jx_go_mono (jx_clv_mono (Nat.le_max_left N N')) _ (max n n') _ _ _ _ _ (Nat.le_max_left n n') h1
  have b := jx_go_mono (jx_clv_mono (Nat.le_max_right N N')) _ (max n n') _ _ _ _ _ (Nat.le_max_right n n') h2
  exact Option.some.inj (a.symm.trans b)
theorem jx_Rn_uniq {c : Nat} {as : List Value} {h : jx_H} {r r' : jx_Q} (h1 : jx_Rn F lv c as h r) (h2 : jx_Rn F lv c as h r') : r = r' := by
  obtain ⟨N, h1⟩ := h1
  obtain ⟨N', h2⟩ := h2
  have a := jx_run_mono lv N (max N N') _ _ _ _ (Nat.le_max_left N N') h1
  have b := jx_run_mono lv N' (max N N') _ _ _ _ (Nat.le_max_right N N') h2
  exact Option.some.inj (a.symm.trans b)
noncomputable def ev (F : jx_F) (lv : Nat) (M : jx_M) (pc : Nat) (L st : List Value) (h : jx_H) : Option jx_Q := @dite _ (∃ r, jx_Ev F lv M pc L st h r) (Classical.propDecidable _) (fun q => some q.choose) (fun _ => none)
noncomputable def rn (F : jx_F) (lv c : Nat) (as : List Value) (h : jx_H) : Option jx_Q := @dite _ (∃ r, jx_Rn F lv c as h r) (Classical.propDecidable _) (fun q => some q.choose) (fun _ => none)
theorem ev_iff {pc : Nat} {L st : List Value} {h : jx_H} {r : jx_Q} : ev F lv M pc L st h = some r ↔ jx_Ev F lv M pc L st h r := by
  unfold ev
  by_cases hx : ∃ r, jx_Ev F lv M pc L st h r
  · rw [dif_pos hx]
    constructor
    · intro q; cases q; exact hx.choose_spec
    · intro q; rw [jx_Ev_uniq q hx.choose_spec]
  · rw [dif_neg hx]
    constructor
    · intro q; cases q
    · intro q; exact absurd ⟨r, q⟩ hx
theorem rn_iff {c : Nat} {as : List Value} {h : jx_H} {r : jx_Q} : rn F lv c as h = some r ↔ jx_Rn F lv c as h r := by
  unfold rn
  by_cases hx : ∃ r, jx_Rn F lv c as h r
  · rw [dif_pos hx]
    constructor
    · intro q; cases q; exact hx.choose_spec
    · intro q; rw [jx_Rn_uniq q hx.choose_spec]
  · rw [dif_neg hx]
    constructor
    · intro q; cases q
    · intro q; exact absurd ⟨r, q⟩ hx
/-- calls from a level -/
noncomputable def rc (F : jx_F) (lv c : Nat) (as : List Value) (h : jx_H) : Option jx_Q := match lv with
  | 0 => none
  | lv + 1 => rn F lv c as h
theorem rn_eq {c : Nat} {as : List Value} {h : jx_H} (hM : jx_tab c = some M) : rn F lv c as h = ev F lv M 0 (jx_ent M as) [] h := by
  apply Option.ext
  intro r
  rw [ev_iff, rn_iff]
  constructor
  · rintro ⟨N, H⟩
    rw [jx_run_eq, hM] at H
    exact ⟨N, N, H⟩
  · rintro ⟨N, n, H⟩
    refine ⟨max N n, ?_⟩
    rw [jx_run_eq, hM]
    exact jx_go_mono (jx_clv_mono (Nat.le_max_left N n)) _ _ _ _ _ _ _ (Nat.le_max_right N n) H
theorem ev_eq (pc : Nat) (L st : List Value) (h : jx_H) : ev F lv M pc L st h = (match jx_prep lv F M pc L st h with
    | some (.inl (c, as, r)) => (rc F lv c as h).bind fun q => ev F lv M (pc + 3) L (q.1.toList ++ r) q.2
    | some (.inr (.inl z)) => ev F lv M z.1 z.2.1 z.2.2.1 z.2.2.2
    | some (.inr (.inr r)) => some r
    | none => none) := by
  apply Option.ext
  intro r
  rw [ev_iff]
  cases hp : jx_prep lv F M pc L st h with
  | none =>
    constructor
    · rintro ⟨N, n, H⟩
      cases n with
      | zero => cases H
      | succ n =>
        unfold jx_go jx_step at H
        rw [hp] at H
        cases H
    · intro q; cases q
  | some w =>
    rcases w with ⟨c, as, rs⟩ | z | q
    · show _ ↔ (rc F lv c as h).bind (fun q => ev F lv M (pc + 3) L (q.1.toList ++ rs) q.2) = some r
      rw [Option.bind_eq_some_iff]
      constructor
      · rintro ⟨N, n, H⟩
        cases n with
        | zero => cases H
        | succ n =>
          unfold jx_go jx_step at H
          rw [hp] at H
          cases hc : jx_clv F N lv c as h with
          | none => simp only [hc] at H; cases H
          | some q =>
            simp only [hc] at H
            refine ⟨q, ?_, ev_iff.mpr ⟨N, n, H⟩⟩
            cases lv with
            | zero => cases hc
            | succ lv => exact rn_iff.mpr ⟨N, hc⟩
      · rintro ⟨q, h1, h2⟩
        obtain ⟨N, n, H⟩ := ev_iff.mp h2
        cases lv with
        | zero => cases h1
        | succ lv =>
          obtain ⟨N', h1⟩ := rn_iff.mp h1
          refine ⟨max N N', n + 1, ?_⟩
          have a := jx_run_mono lv N' (max N N') _ _ _ _ (Nat.le_max_right N N') h1
          have b := jx_go_mono (jx_clv_mono (lv := lv + 1) (Nat.le_max_left N N')) _ _ _ _ _ _ _ (Nat.le_refl n) H
          unfold jx_go jx_step
          rw [hp]
          have a : jx_clv F (max N N') (lv + 1) c as h = some q := a
          simp only [a]
          exact b
    · show _ ↔ ev F lv M z.1 z.2.1 z.2.2.1 z.2.2.2 = some r
      rw [ev_iff]
      constructor
      · rintro ⟨N, n, H⟩
        cases n with
        | zero => cases H
        | succ n =>
          unfold jx_go jx_step at H
          rw [hp] at H
          exact ⟨N, n, H⟩
      · rintro ⟨N, n, H⟩
        refine ⟨N, n + 1, ?_⟩
        unfold jx_go jx_step
        rw [hp]
        exact H
    · show _ ↔ some q = some r
      constructor
      · rintro ⟨N, n, H⟩
        cases n with
        | zero => cases H
        | succ n =>
          unfold jx_go jx_step at H
          rw [hp] at H
          exact H
      · intro H
        refine ⟨0, 1, ?_⟩
        unfold jx_go jx_step
        rw [hp]
        exact H
theorem rn_of_run {N c : Nat} {as : List Value} {h : jx_H} {r : jx_Q} (H : jx_run F N lv c as h = some r) : rn F lv c as h = some r := rn_iff.mpr ⟨N, H⟩
end JEv
/-! ===== what reads nothing foreign runs alike with anything there ===== -/
section JFm
variable {F : jx_F}
theorem jf_ins {lv : Nat} {M : jx_M} {pc : Nat} {L st : List Value} {h : jx_H} {i : Instr} {z : jx_S} (H : jx_ins lv ([], []) M pc L st h i = some (.inr (.inl z))) : jx_ins lv F M pc L st h i = some (.inr (.inl z)) := by
  cases i with
  | getstatic k =>
    obtain ⟨t, a, b, zz, hq, hi1⟩ := ji_pt H
    rcases ji_bif hi1 with ⟨ht, hi2⟩ | ⟨_, hi2⟩
    · obtain ⟨v, hv, hi3⟩ := ji_sv hi2
      cases hv
    · cases hi2
  | getfield k =>
    obtain ⟨t, a, b, zz, hq, hi1⟩ := ji_pt H
    show jx_pt _ _ = _
    rw [hq]
    rcases ji_bif hi1 with ⟨ht, hi2⟩ | ⟨ht, hi2⟩
    · show (bif _ then _ else _) = _
      rw [ht]
      exact hi2
    · rcases ji_bif hi2 with ⟨_, hi3⟩ | ⟨_, hi3⟩
      · rcases ji_a1 hi3 with ⟨a, r, rfl, hi4⟩ | ⟨a, r, rfl, hi4⟩
        · cases hi4
        · obtain ⟨fs, v, hc, -⟩ := ji_gf hi4; cases hc
      · cases hi3
  | iaload =>
    rcases ji_ia H with ⟨i, a, r, rfl, hi1⟩ | ⟨i, a, r, rfl, hi1⟩
    · exact hi1
    · obtain ⟨n, f, hc, -⟩ := ji_gi hi1; cases hc
  | baload =>
    rcases ji_ia H with ⟨i, a, r, rfl, hi1⟩ | ⟨i, a, r, rfl, hi1⟩
    · exact hi1
    · obtain ⟨n, f, hc, -⟩ := ji_gi hi1; cases hc
  | arraylength =>
    rcases ji_a1 H with ⟨a, r, rfl, hi1⟩ | ⟨a, r, rfl, hi1⟩
    · exact hi1
    · obtain ⟨t, n, x, hc, -⟩ := ji_lenF hi1; cases hc
  | _ => exact H
theorem jf_rcv {h : jx_H} {cl : Nat} {as : List Value} (H : jx_rcv ([], []) h cl as = true) : jx_rcv F h cl as = true := by
  unfold jx_rcv at H ⊢
  split at H
  · exact H
  · simp at H
  · cases H
theorem jf_call {h : jx_H} {st : List Value} {rc : Bool} {c : Nat} {q : Nat × List Value × List Value} (H : jx_call ([], []) h st rc c = some q) : jx_call F h st rc c = some q := by
  unfold jx_call at H ⊢
  split at H
  · rename_i cl n mx hs
    split at H
    · rename_i as r ht
      cases hb : ((Nat.ble (jx_catS r) 8 && Nat.ble (jx_lay as).length mx) && (!rc || jx_rcv ([], []) h cl as)) with
      | false => rw [hb] at H; cases H
      | true =>
        rw [hb] at H
        obtain ⟨q1, q2⟩ := Bool.and_eq_true_iff.mp hb
        have : (!rc || jx_rcv F h cl as) = true := by
          rcases Bool.or_eq_true_iff.mp q2 with g | g
          · rw [g]; rfl
          · rw [jf_rcv g]; cases rc <;> rfl
        rw [q1, this]
        exact H
    · cases H
  · cases H
theorem jf_invs {M : jx_M} {st : List Value} {h : jx_H} {i : Instr} {q : Nat × List Value × List Value} (H : jx_invs ([], []) M st h i = some q) : jx_invs F M st h i = some q := by
  unfold jx_invs at H ⊢
  split at H
  · split at H
    · rename_i t c _ _ _
      cases hb : Nat.beq t 3 <;> rw [hb] at H
      · cases H
      · exact jf_call H
    · cases H
  · split at H
    · rename_i t c _ _ _
      cases hb : Nat.beq t 11 <;> rw [hb] at H
      · cases H
      · exact jf_call H
    · cases H
  · split at H
    · rename_i t c _ _ _
      cases hb : Nat.beq t 12 <;> rw [hb] at H
      · cases H
      · exact jf_call H
    · cases H
  · cases H
theorem jf_no {lv : Nat} {M : jx_M} {pc : Nat} {L st : List Value} {h : jx_H} {i : Instr} {z : jx_S} {F' : jx_F} (H : jx_ins lv F' M pc L st h i = some (.inr (.inl z))) : jx_invs F M st h i = none := by
  cases i with
  | invokevirtual k => cases H
  | invokestatic k =>
    obtain ⟨t, a, b, zz, hq, hi1⟩ := ji_pt H
    show (match jx_as M.1 k with
      | some (t, c, _, _) => bif Nat.beq t 11 then jx_call F h st false c else none
      | none => none) = none
    rw [hq]
    show (bif Nat.beq t 11 then jx_call F h st false a else none) = none
    cases hb : Nat.beq t 11 with
    | false => rfl
    | true => cases Nat.eq_of_beq_eq_true hb; cases hi1
  | invokespecial k =>
    obtain ⟨t, a, b, zz, hq, hi1⟩ := ji_pt H
    show (match jx_as M.1 k with
      | some (t, c, _, _) => bif Nat.beq t 12 then jx_call F h st true c else none
      | none => none) = none
    rw [hq]
    show (bif Nat.beq t 12 then jx_call F h st true a else none) = none
    cases hb : Nat.beq t 12 with
    | false => rfl
    | true => cases Nat.eq_of_beq_eq_true hb; cases hi1
  | _ => rfl
theorem jf_prep {lv : Nat} {M : jx_M} {pc : Nat} {L st : List Value} {h : jx_H} {x : jx_R} (H : jx_prep lv ([], []) M pc L st h = some x) : jx_prep lv F M pc L st h = some x := by
  unfold jx_prep at H ⊢
  split at H
  · split at H
    · exact H
    · split at H
      · rename_i q hq
        rw [jf_invs hq]
        exact H
      · split at H
        · rename_i z hz
          rw [jf_no hz, jf_ins hz]
          exact H
        · cases H
  · cases H
theorem jf_step {call call' : Nat → List Value → jx_H → Option jx_Q} (hc : ∀ c as h r, call c as h = some r → call' c as h = some r) {lv : Nat} {M : jx_M} {pc : Nat} {L st : List Value} {h : jx_H} {x : jx_S ⊕ jx_Q} (H : jx_step call lv ([], []) M pc L st h = some x) : jx_step call' lv F M pc L st h = some x := by
  unfold jx_step at H ⊢
  split at H
  · rename_i c as r hp
    rw [jf_prep hp]
    split at H
    · rename_i v h' hcl
      simp only [hc _ _ _ _ hcl]
      exact H
    · cases H
  · rename_i y hp
    rw [jf_prep hp]
    exact H
  · cases H
theorem jf_go {call call' : Nat → List Value → jx_H → Option jx_Q} (hc : ∀ c as h r, call c as h = some r → call' c as h = some r) {lv : Nat} {M : jx_M} : ∀ (n pc : Nat) (L st : List Value) (h : jx_H) (r : jx_Q), jx_go call lv ([], []) M n pc L st h = some r → jx_go call' lv F M n pc L st h = some r := by
  intro n
  induction n with
  | zero => intro pc L st h r H; cases H
  | succ n ih =>
    intro pc L st h r H
    unfold jx_go at H ⊢
    split at H
    · rename_i pc' L' st' h' hs
      rw [jf_step hc hs]
      exact ih _ _ _ _ _ H
    · rename_i r' hs
      rw [jf_step hc hs]
      exact H
    · cases H
theorem jf_run {N : Nat} : ∀ (lv c : Nat) (as : List Value) (h : jx_H) (r : jx_Q), jx_run ([], []) N lv c as h = some r → jx_run F N lv c as h = some r := by
  intro lv
  induction lv with
  | zero =>
    intro c as h r H
    rw [jx_run_eq] at H ⊢
    split at H
    · exact jf_go (fun _ _ _ _ q => q) _ _ _ _ _ _ H
    · cases H
  | succ lv ih =>
    intro c as h r H
    rw [jx_run_eq] at H ⊢
    split at H
    · exact jf_go ih _ _ _ _ _ _ H
    · cases H
end JFm
