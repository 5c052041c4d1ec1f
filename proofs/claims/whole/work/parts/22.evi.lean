/-! ===== one instruction ===== -/
section JEi
variable {F : jx_F} {lv : Nat} {M : jx_M} {pc pc' : Nat} {L L' st st' : List Value} {h : jx_H} {i : Instr}
noncomputable def jx_cont (F : jx_F) (lv : Nat) (M : jx_M) (o : Option jx_R) : Option jx_Q := match o with
  | some (.inr (.inl z)) => ev F lv M z.1 z.2.1 z.2.2.1 z.2.2.2
  | _ => none
theorem ev_ins (hf : jx_as M.2.2.2.2.2.2 pc = some i) (h1 : jx_rets M st h i = none) (h2 : jx_invs F M st h i = none) : ev F lv M pc L st h = jx_cont F lv M (jx_ins lv F M pc L st h i) := by
  rw [ev_eq]
  unfold jx_prep
  rw [hf]
  simp only [h1, h2]
  cases jx_ins lv F M pc L st h i with
  | none => rfl
  | some w => rcases w with w | w | w <;> rfl
theorem ev_s (hf : jx_as M.2.2.2.2.2.2 pc = some i) (h1 : jx_rets M st h i = none) (h2 : jx_invs F M st h i = none) {h' : jx_H} (hi : jx_ins lv F M pc L st h i = jx_to pc' L' st' h') : ev F lv M pc L st h = ev F lv M pc' L' st' h' := by
  rw [ev_ins hf h1 h2, hi]; rfl
theorem ev_b (hf : jx_as M.2.2.2.2.2.2 pc = some i) (h1 : jx_rets M st h i = none) (h2 : jx_invs F M st h i = none) {b : Bool} {c : Prop} [Decidable c] {off : Int} {t : Nat} (hi : jx_ins lv F M pc L st h i = jx_br b pc off L' st' h) (hb : b = decide c) (ht : (pc : Int) + off = (t : Int)) : ev F lv M pc L st h = if c then ev F lv M t L' st' h else ev F lv M (pc + 3) L' st' h := by
  rw [ev_ins hf h1 h2, hi]
  unfold jx_br
  have e : jx_jp pc off = t := by unfold jx_jp; omega
  have e0 : decide (0 ≤ (pc : Int) + off) = true := decide_eq_true (by omega)
  rw [e0, e, hb]
  by_cases hc : c
  · rw [decide_eq_true hc, if_pos hc]; rfl
  · rw [decide_eq_false hc, if_neg hc]; rfl
theorem ev_bn (hf : jx_as M.2.2.2.2.2.2 pc = some i) (h1 : jx_rets M st h i = none) (h2 : jx_invs F M st h i = none) {b : Bool} {c : Prop} [Decidable c] {off : Int} {t : Nat} (hi : jx_ins lv F M pc L st h i = jx_br b pc off L' st' h) (hb : b = decide (¬ c)) (ht : (pc : Int) + off = (t : Int)) : ev F lv M pc L st h = if c then ev F lv M (pc + 3) L' st' h else ev F lv M t L' st' h := by
  rw [ev_b (c := ¬ c) hf h1 h2 hi hb ht]
  by_cases hc : c
  · rw [if_neg (fun q => q hc), if_pos hc]
  · rw [if_pos hc, if_neg hc]
theorem ev_if0 (hf : jx_as M.2.2.2.2.2.2 pc = some i) (h1 : jx_rets M st h i = none) (h2 : jx_invs F M st h i = none) {c : Prop} [Decidable c] (hi : jx_ins lv F M pc L st h i = if c then none else jx_to pc' L' st' h) : ev F lv M pc L st h = if c then none else ev F lv M pc' L' st' h := by
  rw [ev_ins hf h1 h2, hi]
  split <;> rfl
section JC
variable {α β : Type} {g : Option α → Option β} (hg : g none = none)
theorem jc_at {i : Int32} {n : Nat} {k : Option α} : g none = none → g (jx_at i n k) = jx_at i n (g k) := by
  intro hg; unfold jx_at; split
  · exact hg
  · rfl
theorem jc_gi {t a : Nat} {i : Int32} {k : Int32 → Option α} (hg : g none = none) : g (jx_gi h t a i k) = jx_gi h t a i fun x => g (k x) := by
  unfold jx_gi; split
  · rename_i t' n f hc
    cases Nat.beq t' t
    · exact hg
    · exact jc_at hg
  · exact hg
theorem jc_gl {a : Nat} {i : Int32} {k : Int64 → Option α} (hg : g none = none) : g (jx_gl h a i k) = jx_gl h a i fun x => g (k x) := by
  unfold jx_gl; split
  · rename_i t' n f hc
    cases Nat.beq t' 3
    · exact hg
    · exact jc_at hg
  · exact hg
theorem jc_ga {a : Nat} {i : Int32} {k : Nat → Option α} (hg : g none = none) : g (jx_ga h a i k) = jx_ga h a i fun x => g (k x) := by
  unfold jx_ga; split
  · rename_i t' n f hc
    cases jx_rs t'
    · exact hg
    · show g (jx_at _ _ _) = jx_at _ _ _
      rw [jc_at hg]
      cases f i.toNatClampNeg with
      | none => simp only [hg]
      | some y => rfl
  · exact hg
theorem jc_pi {t a : Nat} {i x : Int32} {k : jx_H → Option α} (hg : g none = none) : g (jx_pi h t a i x k) = jx_pi h t a i x fun y => g (k y) := by
  unfold jx_pi; split
  · rename_i t' n f hc
    cases Nat.beq t' t
    · exact hg
    · exact jc_at hg
  · exact hg
theorem jc_pl {a : Nat} {i : Int32} {x : Int64} {k : jx_H → Option α} (hg : g none = none) : g (jx_pl h a i x k) = jx_pl h a i x fun y => g (k y) := by
  unfold jx_pl; split
  · rename_i t' n f hc
    cases Nat.beq t' 3
    · exact hg
    · exact jc_at hg
  · exact hg
theorem jc_pa {a x : Nat} {i : Int32} {k : jx_H → Option α} (hg : g none = none) : g (jx_pa h a i x k) = jx_pa h a i x fun y => g (k y) := by
  unfold jx_pa; split
  · rename_i t' n f ci fs hc hx
    cases (jx_rs t' && Nat.beq t' (10 + ci))
    · exact hg
    · exact jc_at hg
  · exact hg
theorem jc_gf {a ci j : Nat} {k : Value → Option α} (hg : g none = none) : g (jx_gf h a ci j k) = jx_gf h a ci j fun x => g (k x) := by
  unfold jx_gf; split
  · rename_i c fs hc
    cases Nat.beq c ci
    · exact hg
    · show g (match fs[j]? with | some v => k v | none => none) = (match fs[j]? with | some v => g (k v) | none => none)
      cases fs[j]? with
      | none => exact hg
      | some v => rfl
  · exact hg
theorem jc_pf {a ci j : Nat} {v : Value} {k : jx_H → Option α} (hg : g none = none) : g (jx_pf h a ci j v k) = jx_pf h a ci j v fun x => g (k x) := by
  unfold jx_pf; split
  · rename_i c fs hc
    cases (Nat.beq c ci && Nat.blt j fs.length)
    · exact hg
    · rfl
  · exact hg
theorem jc_len {a : Nat} {k : Int32 → Option α} (hg : g none = none) : g (jx_len h a k) = jx_len h a fun x => g (k x) := by
  unfold jx_len; split
  · rename_i t n x hc
    cases (Nat.ble t 3 || jx_rs t)
    · exact hg
    · rfl
  · exact hg
theorem jc_lenF {a : Nat} {k : Int32 → Option α} (hg : g none = none) : g (jx_lenF h a k) = jx_lenF h a fun x => g (k x) := by
  unfold jx_lenF; split
  · rfl
  · exact hg
theorem jc_cp {k : List Value → jx_H → Option α} (hg : g none = none) : g (jx_cp h st k) = jx_cp h st fun x y => g (k x y) := by
  unfold jx_cp; split
  · rename_i n dp b sp a r
    cases Nat.ble (jx_catS r) 8
    · exact hg
    · simp only [cond_true]
      split
      · split
        · rfl
        · exact hg
      · split
        · rfl
        · exact hg
      · exact hg
  · exact hg
end JC
theorem ev_gf (hf : jx_as M.2.2.2.2.2.2 pc = some i) (h1 : jx_rets M st h i = none) (h2 : jx_invs F M st h i = none) {hh : jx_H} {a ci j : Nat} {k : Value → List Value} (hi : jx_ins lv F M pc L st h i = jx_gf hh a ci j fun v => jx_to pc' L' (k v) h) : ev F lv M pc L st h = jx_gf hh a ci j fun v => ev F lv M pc' L' (k v) h := by
  rw [ev_ins hf h1 h2, hi, jc_gf (g := jx_cont F lv M) rfl]; rfl
theorem ev_pf (hf : jx_as M.2.2.2.2.2.2 pc = some i) (h1 : jx_rets M st h i = none) (h2 : jx_invs F M st h i = none) {a ci j : Nat} {v : Value} (hi : jx_ins lv F M pc L st h i = jx_pf h a ci j v fun h' => jx_to pc' L' st' h') : ev F lv M pc L st h = jx_pf h a ci j v fun h' => ev F lv M pc' L' st' h' := by
  rw [ev_ins hf h1 h2, hi, jc_pf (g := jx_cont F lv M) rfl]; rfl
theorem ev_pfB (hf : jx_as M.2.2.2.2.2.2 pc = some i) (h1 : jx_rets M st h i = none) (h2 : jx_invs F M st h i = none) {b : Bool} {a ci j : Nat} {v : Value} (hi : jx_ins lv F M pc L st h i = bif b then jx_pf h a ci j v fun h' => jx_to pc' L' st' h' else none) : ev F lv M pc L st h = bif b then jx_pf h a ci j v fun h' => ev F lv M pc' L' st' h' else none := by
  rw [ev_ins hf h1 h2, hi]
  cases b
  · rfl
  · show jx_cont F lv M (jx_pf h a ci j v fun h' => jx_to pc' L' st' h') = _
    rw [jc_pf (g := jx_cont F lv M) rfl]; rfl
theorem ev_gi (hf : jx_as M.2.2.2.2.2.2 pc = some i) (h1 : jx_rets M st h i = none) (h2 : jx_invs F M st h i = none) {hh : jx_H} {t a : Nat} {x : Int32} (hi : jx_ins lv F M pc L st h i = jx_gi hh t a x fun v => jx_to pc' L' (.int v :: st') h) : ev F lv M pc L st h = jx_gi hh t a x fun v => ev F lv M pc' L' (.int v :: st') h := by
  rw [ev_ins hf h1 h2, hi, jc_gi (g := jx_cont F lv M) rfl]; rfl
theorem ev_gl (hf : jx_as M.2.2.2.2.2.2 pc = some i) (h1 : jx_rets M st h i = none) (h2 : jx_invs F M st h i = none) {a : Nat} {x : Int32} (hi : jx_ins lv F M pc L st h i = jx_gl h a x fun v => jx_to pc' L' (.long v :: st') h) : ev F lv M pc L st h = jx_gl h a x fun v => ev F lv M pc' L' (.long v :: st') h := by
  rw [ev_ins hf h1 h2, hi, jc_gl (g := jx_cont F lv M) rfl]; rfl
theorem ev_ga (hf : jx_as M.2.2.2.2.2.2 pc = some i) (h1 : jx_rets M st h i = none) (h2 : jx_invs F M st h i = none) {a : Nat} {x : Int32} (hi : jx_ins lv F M pc L st h i = jx_ga h a x fun v => jx_to pc' L' (.ref v :: st') h) : ev F lv M pc L st h = jx_ga h a x fun v => ev F lv M pc' L' (.ref v :: st') h := by
  rw [ev_ins hf h1 h2, hi, jc_ga (g := jx_cont F lv M) rfl]; rfl
theorem ev_pi (hf : jx_as M.2.2.2.2.2.2 pc = some i) (h1 : jx_rets M st h i = none) (h2 : jx_invs F M st h i = none) {t a : Nat} {x v : Int32} (hi : jx_ins lv F M pc L st h i = jx_pi h t a x v fun h' => jx_to pc' L' st' h') : ev F lv M pc L st h = jx_pi h t a x v fun h' => ev F lv M pc' L' st' h' := by
  rw [ev_ins hf h1 h2, hi, jc_pi (g := jx_cont F lv M) rfl]; rfl
theorem ev_pl (hf : jx_as M.2.2.2.2.2.2 pc = some i) (h1 : jx_rets M st h i = none) (h2 : jx_invs F M st h i = none) {a : Nat} {x : Int32} {v : Int64} (hi : jx_ins lv F M pc L st h i = jx_pl h a x v fun h' => jx_to pc' L' st' h') : ev F lv M pc L st h = jx_pl h a x v fun h' => ev F lv M pc' L' st' h' := by
  rw [ev_ins hf h1 h2, hi, jc_pl (g := jx_cont F lv M) rfl]; rfl
theorem ev_pa (hf : jx_as M.2.2.2.2.2.2 pc = some i) (h1 : jx_rets M st h i = none) (h2 : jx_invs F M st h i = none) {a v : Nat} {x : Int32} (hi : jx_ins lv F M pc L st h i = jx_pa h a x v fun h' => jx_to pc' L' st' h') : ev F lv M pc L st h = jx_pa h a x v fun h' => ev F lv M pc' L' st' h' := by
  rw [ev_ins hf h1 h2, hi, jc_pa (g := jx_cont F lv M) rfl]; rfl
theorem ev_len (hf : jx_as M.2.2.2.2.2.2 pc = some i) (h1 : jx_rets M st h i = none) (h2 : jx_invs F M st h i = none) {a : Nat} (hi : jx_ins lv F M pc L st h i = jx_len h a fun v => jx_to pc' L' (.int v :: st') h) : ev F lv M pc L st h = jx_len h a fun v => ev F lv M pc' L' (.int v :: st') h := by
  rw [ev_ins hf h1 h2, hi, jc_len (g := jx_cont F lv M) rfl]; rfl
theorem ev_lenF (hf : jx_as M.2.2.2.2.2.2 pc = some i) (h1 : jx_rets M st h i = none) (h2 : jx_invs F M st h i = none) {hh : jx_H} {a : Nat} (hi : jx_ins lv F M pc L st h i = jx_lenF hh a fun v => jx_to pc' L' (.int v :: st') h) : ev F lv M pc L st h = jx_lenF hh a fun v => ev F lv M pc' L' (.int v :: st') h := by
  rw [ev_ins hf h1 h2, hi, jc_lenF (g := jx_cont F lv M) rfl]; rfl
theorem ev_cp (hf : jx_as M.2.2.2.2.2.2 pc = some i) (h1 : jx_rets M st h i = none) (h2 : jx_invs F M st h i = none) (hi : jx_ins lv F M pc L st h i = jx_cp h st fun r h' => jx_to pc' L' r h') : ev F lv M pc L st h = jx_cp h st fun r h' => ev F lv M pc' L' r h' := by
  rw [ev_ins hf h1 h2, hi, jc_cp (g := jx_cont F lv M) rfl]; rfl
theorem ev_r (hf : jx_as M.2.2.2.2.2.2 pc = some i) {r : jx_Q} (h1 : jx_rets M st h i = some r) : ev F lv M pc L st h = some r := by
  rw [ev_eq]; unfold jx_prep; rw [hf]; simp only [h1]
theorem ev_rB (hf : jx_as M.2.2.2.2.2.2 pc = some i) {r : jx_Q} {b : Bool} (h1 : jx_rets M st h i = bif b then some r else none) (hb : b = true) : ev F lv M pc L st h = some r := ev_r hf (by rw [h1, hb]; rfl)
theorem ev_c (hf : jx_as M.2.2.2.2.2.2 pc = some i) (h1 : jx_rets M st h i = none) {c : Nat} {as r : List Value} (h2 : jx_invs F M st h i = some (c, as, r)) : ev F (lv + 1) M pc L st h = (rn F lv c as h).bind fun q => ev F (lv + 1) M (pc + 3) L (q.1.toList ++ r) q.2 := by
  rw [ev_eq]; unfold jx_prep; rw [hf]; simp only [h1, h2]; rfl
theorem ev_cR (hf : jx_as M.2.2.2.2.2.2 pc = some i) (h1 : jx_rets M st h i = none) {c cl : Nat} {as r : List Value} (h2 : jx_invs F M st h i = bif jx_rcv F h cl as then some (c, as, r) else none) (hr : jx_rcv F h cl as = true) : ev F (lv + 1) M pc L st h = (rn F lv c as h).bind fun q => ev F (lv + 1) M (pc + 3) L (q.1.toList ++ r) q.2 := ev_c hf h1 (by rw [h2, hr]; rfl)
end JEi
