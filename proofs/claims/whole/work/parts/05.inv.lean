/-! ===== what a step that went through had before it ===== -/
section JInv
variable {st L : List Value} {h : jx_H} {y : jx_R} {z : jx_S}
theorem ji_to {pc : Nat} (H : jx_to pc L st h = some (.inr (.inl z))) : z = (pc, L, st, h) := by
  unfold jx_to at H; cases H; rfl
theorem ji_i1 {k : Int32 → List Value → Option jx_R} (H : jx_i1 st k = some y) : ∃ x r, st = .int x :: r ∧ k x r = some y := by
  unfold jx_i1 at H; split at H
  · exact ⟨_, _, rfl, H⟩
  · cases H
theorem ji_i2 {k : Int32 → Int32 → List Value → Option jx_R} (H : jx_i2 st k = some y) : ∃ x w r, st = .int w :: .int x :: r ∧ k x w r = some y := by
  unfold jx_i2 at H; split at H
  · exact ⟨_, _, _, rfl, H⟩
  · cases H
theorem ji_l1 {k : Int64 → List Value → Option jx_R} (H : jx_l1 st k = some y) : ∃ x r, st = .long x :: r ∧ k x r = some y := by
  unfold jx_l1 at H; split at H
  · exact ⟨_, _, rfl, H⟩
  · cases H
theorem ji_l2 {k : Int64 → Int64 → List Value → Option jx_R} (H : jx_l2 st k = some y) : ∃ x w r, st = .long w :: .long x :: r ∧ k x w r = some y := by
  unfold jx_l2 at H; split at H
  · exact ⟨_, _, _, rfl, H⟩
  · cases H
theorem ji_li {k : Int64 → Int32 → List Value → Option jx_R} (H : jx_li st k = some y) : ∃ x w r, st = .int w :: .long x :: r ∧ k x w r = some y := by
  unfold jx_li at H; split at H
  · exact ⟨_, _, _, rfl, H⟩
  · cases H
theorem ji_a1 {k f : Nat → List Value → Option jx_R} (H : jx_a1 st k f = some y) : (∃ a r, st = .ref a :: r ∧ k a r = some y) ∨ ∃ a r, st = .retAddr a :: r ∧ f a r = some y := by
  unfold jx_a1 at H; split at H
  · exact Or.inl ⟨_, _, rfl, H⟩
  · exact Or.inr ⟨_, _, rfl, H⟩
  · cases H
theorem ji_ia {k f : Int32 → Nat → List Value → Option jx_R} (H : jx_ia st k f = some y) : (∃ i a r, st = .int i :: .ref a :: r ∧ k i a r = some y) ∨ ∃ i a r, st = .int i :: .retAddr a :: r ∧ f i a r = some y := by
  unfold jx_ia at H; split at H
  · exact Or.inl ⟨_, _, _, rfl, H⟩
  · exact Or.inr ⟨_, _, _, rfl, H⟩
  · cases H
theorem ji_via {k : Value → Int32 → Nat → List Value → Option jx_R} (H : jx_via st k = some y) : ∃ v i a r, st = v :: .int i :: .ref a :: r ∧ k v i a r = some y := by
  unfold jx_via at H; split at H
  · exact ⟨_, _, _, _, rfl, H⟩
  · cases H
theorem ji_va {k : Value → Nat → List Value → Option jx_R} (H : jx_va st k = some y) : ∃ v a r, st = v :: .ref a :: r ∧ k v a r = some y := by
  unfold jx_va at H; split at H
  · exact ⟨_, _, _, rfl, H⟩
  · cases H
theorem ji_st1 {i : Nat} {v : Value} {k : List Value → Option jx_R} (H : jx_st1 L i v k = some y) : i < L.length ∧ ¬ (1 ≤ i ∧ jx_isL L[i - 1]? = true) ∧ k (L.set i v) = some y := by
  unfold jx_st1 at H; split at H
  · rename_i hi
    cases hc : (Nat.ble 1 i && jx_isL L[i - 1]?) with
    | true => rw [hc] at H; cases H
    | false =>
      rw [hc] at H
      refine ⟨hi, fun q => ?_, H⟩
      rw [Nat.ble_eq_true_of_le q.1, q.2] at hc; cases hc
  · cases H
theorem ji_st2 {i : Nat} {v : Value} {k : List Value → Option jx_R} (H : jx_st2 L i v k = some y) : i + 1 < L.length ∧ ¬ (1 ≤ i ∧ jx_isL L[i - 1]? = true) ∧ k ((L.set i v).set (i + 1) jx_junk) = some y := by
  unfold jx_st2 at H; split at H
  · rename_i hi
    cases hc : (Nat.ble 1 i && jx_isL L[i - 1]?) with
    | true => rw [hc] at H; cases H
    | false =>
      rw [hc] at H
      refine ⟨hi, fun q => ?_, H⟩
      rw [Nat.ble_eq_true_of_le q.1, q.2] at hc; cases hc
  · cases H
theorem ji_ldi {i : Nat} {k : Int32 → Option jx_R} (H : jx_ldi L i k = some y) : ∃ x, L[i]? = some (.int x) ∧ k x = some y := by
  unfold jx_ldi at H; split at H
  · exact ⟨_, by assumption, H⟩
  · cases H
theorem ji_ldl {i : Nat} {k : Int64 → Option jx_R} (H : jx_ldl L i k = some y) : ∃ x, L[i]? = some (.long x) ∧ k x = some y := by
  unfold jx_ldl at H; split at H
  · exact ⟨_, by assumption, H⟩
  · cases H
theorem ji_lda {i : Nat} {k : Value → Option jx_R} (H : jx_lda L i k = some y) : (∃ x, L[i]? = some (.ref x) ∧ k (.ref x) = some y) ∨ ∃ x, L[i]? = some (.retAddr x) ∧ k (.retAddr x) = some y := by
  unfold jx_lda at H; split at H
  · exact Or.inl ⟨_, by assumption, H⟩
  · exact Or.inr ⟨_, by assumption, H⟩
  · cases H
theorem ji_br {c : Bool} {pc : Nat} {off : Int} (H : jx_br c pc off L st h = some (.inr (.inl z))) : (pc : Int) + off = (jx_jp pc off : Int) ∧ ((c = true ∧ z = (jx_jp pc off, L, st, h)) ∨ (c = false ∧ z = (pc + 3, L, st, h))) := by
  unfold jx_br at H
  cases hd : decide (0 ≤ (pc : Int) + off) with
  | false => rw [hd] at H; cases H
  | true =>
    rw [hd] at H
    have h0 : 0 ≤ (pc : Int) + off := of_decide_eq_true hd
    refine ⟨by unfold jx_jp; omega, ?_⟩
    cases c with
    | true => exact Or.inl ⟨rfl, ji_to H⟩
    | false => exact Or.inr ⟨rfl, ji_to H⟩
theorem ji_at {α : Type} {i : Int32} {n : Nat} {k : Option α} {w : α} (H : jx_at i n k = some w) : vp_in i n ∧ k = some w := by
  unfold jx_at at H; split at H
  · cases H
  · exact ⟨by assumption, H⟩
theorem ji_gi {t a : Nat} {i : Int32} {k : Int32 → Option jx_R} (H : jx_gi h t a i k = some y) : ∃ n f, h[a]? = some (.inl (t, n, .inl f)) ∧ vp_in i n ∧ k (f i.toNatClampNeg) = some y := by
  unfold jx_gi at H; split at H
  · rename_i t' n f hc
    cases ht : Nat.beq t' t with
    | false => rw [ht] at H; cases H
    | true =>
      rw [ht] at H
      cases Nat.eq_of_beq_eq_true ht
      obtain ⟨h1, h2⟩ := ji_at H
      exact ⟨n, f, hc, h1, h2⟩
  · cases H
theorem ji_gl {a : Nat} {i : Int32} {k : Int64 → Option jx_R} (H : jx_gl h a i k = some y) : ∃ n f, h[a]? = some (.inl (3, n, .inr (.inl f))) ∧ vp_in i n ∧ k (f i.toNatClampNeg) = some y := by
  unfold jx_gl at H; split at H
  · rename_i t' n f hc
    cases ht : Nat.beq t' 3 with
    | false => rw [ht] at H; cases H
    | true =>
      rw [ht] at H
      cases Nat.eq_of_beq_eq_true ht
      obtain ⟨h1, h2⟩ := ji_at H
      exact ⟨n, f, hc, h1, h2⟩
  · cases H
theorem ji_ga {a : Nat} {i : Int32} {k : Nat → Option jx_R} (H : jx_ga h a i k = some y) : ∃ t n f x, h[a]? = some (.inl (t, n, .inr (.inr f))) ∧ jx_rs t = true ∧ vp_in i n ∧ f i.toNatClampNeg = some x ∧ k x = some y := by
  unfold jx_ga at H; split at H
  · rename_i t' n f hc
    cases ht : jx_rs t' with
    | false => rw [ht] at H; cases H
    | true =>
      rw [ht] at H
      obtain ⟨h1, h2⟩ := ji_at H
      cases hf : f i.toNatClampNeg with
      | none => rw [hf] at h2; cases h2
      | some x => rw [hf] at h2; exact ⟨t', n, f, x, hc, ht, h1, hf, h2⟩
  · cases H
theorem ji_pi {t a : Nat} {i x : Int32} {k : jx_H → Option jx_R} (H : jx_pi h t a i x k = some y) : ∃ n f, h[a]? = some (.inl (t, n, .inl f)) ∧ vp_in i n ∧ k (h.set a (.inl (t, n, .inl (upd f i.toNatClampNeg x)))) = some y := by
  unfold jx_pi at H; split at H
  · rename_i t' n f hc
    cases ht : Nat.beq t' t with
    | false => rw [ht] at H; cases H
    | true =>
      rw [ht] at H
      cases Nat.eq_of_beq_eq_true ht
      obtain ⟨h1, h2⟩ := ji_at H
      exact ⟨n, f, hc, h1, h2⟩
  · cases H
theorem ji_pl {a : Nat} {i : Int32} {x : Int64} {k : jx_H → Option jx_R} (H : jx_pl h a i x k = some y) : ∃ n f, h[a]? = some (.inl (3, n, .inr (.inl f))) ∧ vp_in i n ∧ k (h.set a (.inl (3, n, .inr (.inl (vp_updL f i.toNatClampNeg x))))) = some y := by
  unfold jx_pl at H; split at H
  · rename_i t' n f hc
    cases ht : Nat.beq t' 3 with
    | false => rw [ht] at H; cases H
    | true =>
      rw [ht] at H
      cases Nat.eq_of_beq_eq_true ht
      obtain ⟨h1, h2⟩ := ji_at H
      exact ⟨n, f, hc, h1, h2⟩
  · cases H
theorem ji_pa {a x : Nat} {i : Int32} {k : jx_H → Option jx_R} (H : jx_pa h a i x k = some y) : ∃ n f ci fs, h[a]? = some (.inl (10 + ci, n, .inr (.inr f))) ∧ jx_rs (10 + ci) = true ∧ h[x]? = some (.inr (ci, fs)) ∧ vp_in i n ∧ k (h.set a (.inl (10 + ci, n, .inr (.inr (va_up f i.toNatClampNeg (some x)))))) = some y := by
  unfold jx_pa at H; split at H
  · rename_i t' n f ci fs hc hx
    cases ht : (jx_rs t' && Nat.beq t' (10 + ci)) with
    | false => rw [ht] at H; cases H
    | true =>
      rw [ht] at H
      obtain ⟨q1, q2⟩ := Bool.and_eq_true_iff.mp ht
      cases Nat.eq_of_beq_eq_true q2
      obtain ⟨h1, h2⟩ := ji_at H
      exact ⟨n, f, ci, fs, hc, q1, hx, h1, h2⟩
  · cases H
theorem ji_gf {a ci j : Nat} {k : Value → Option jx_R} (H : jx_gf h a ci j k = some y) : ∃ fs v, h[a]? = some (.inr (ci, fs)) ∧ fs[j]? = some v ∧ k v = some y := by
  unfold jx_gf at H; split at H
  · rename_i c' fs hc
    cases ht : Nat.beq c' ci with
    | false => rw [ht] at H; cases H
    | true =>
      rw [ht] at H
      cases Nat.eq_of_beq_eq_true ht
      cases hf : fs[j]? with
      | none => rw [hf] at H; cases H
      | some v => rw [hf] at H; exact ⟨fs, v, hc, hf, H⟩
  · cases H
theorem ji_pf {a ci j : Nat} {v : Value} {k : jx_H → Option jx_R} (H : jx_pf h a ci j v k = some y) : ∃ fs, h[a]? = some (.inr (ci, fs)) ∧ j < fs.length ∧ k (h.set a (.inr (ci, fs.set j v))) = some y := by
  unfold jx_pf at H; split at H
  · rename_i c' fs hc
    cases ht : (Nat.beq c' ci && Nat.blt j fs.length) with
    | false => rw [ht] at H; cases H
    | true =>
      rw [ht] at H
      obtain ⟨q1, q2⟩ := Bool.and_eq_true_iff.mp ht
      cases Nat.eq_of_beq_eq_true q1
      exact ⟨fs, hc, Nat.le_of_ble_eq_true q2, H⟩
  · cases H
theorem ji_len {a : Nat} {k : Int32 → Option jx_R} (H : jx_len h a k = some y) : ∃ t n x, h[a]? = some (.inl (t, n, x)) ∧ (t = 0 ∨ t = 1 ∨ t = 2 ∨ t = 3 ∨ jx_rs t = true) ∧ k (Int32.ofNat n) = some y := by
  unfold jx_len at H; split at H
  · rename_i t n x hc
    cases hb : (Nat.ble t 3 || jx_rs t) with
    | false => rw [hb] at H; cases H
    | true =>
      rw [hb] at H
      refine ⟨t, n, x, hc, ?_, H⟩
      rcases Bool.or_eq_true_iff.mp hb with q | q
      · have := Nat.le_of_ble_eq_true q
        have : t = 0 ∨ t = 1 ∨ t = 2 ∨ t = 3 := by omega
        rcases this with h | h | h | h
        · exact Or.inl h
        · exact Or.inr (Or.inl h)
        · exact Or.inr (Or.inr (Or.inl h))
        · exact Or.inr (Or.inr (Or.inr (Or.inl h)))
      · exact Or.inr (Or.inr (Or.inr (Or.inr q)))
  · cases H
theorem ji_lenF {a : Nat} {k : Int32 → Option jx_R} (H : jx_lenF h a k = some y) : ∃ t n x, h[a]? = some (.inl (t, n, x)) ∧ k (Int32.ofNat n) = some y := by
  unfold jx_lenF at H; split at H
  · exact ⟨_, _, _, by assumption, H⟩
  · cases H
theorem ji_pt {o : Option jx_P} {k : Nat → Nat → Nat → Int → Option jx_R} (H : jx_pt o k = some y) : ∃ t a b z, o = some (t, a, b, z) ∧ k t a b z = some y := by
  unfold jx_pt at H; split at H
  · exact ⟨_, _, _, _, rfl, H⟩
  · cases H
theorem ji_sv {sv : List Value} {a : Nat} {k : Value → Option jx_R} (H : jx_sv sv a k = some y) : ∃ v, sv[a]? = some v ∧ k v = some y := by
  unfold jx_sv at H; split at H
  · exact ⟨_, by assumption, H⟩
  · cases H
theorem ji_fd {ci j : Nat} {k : Nat → Bool → Option jx_R} (H : jx_fd ci j k = some y) : ∃ t fin, (jx_cls.getD ci [])[j]? = some (t, fin) ∧ k t fin = some y := by
  unfold jx_fd at H; split at H
  · exact ⟨_, _, by assumption, H⟩
  · cases H
theorem ji_cf {ci : Nat} {k : List Value → Option jx_R} (H : jx_cf ci k = some y) : ∃ fs, jx_cls[ci]? = some fs ∧ k (fs.map fun q => bif Nat.beq q.1 9 then .null else .int 0) = some y := by
  unfold jx_cf at H; split at H
  · exact ⟨_, by assumption, H⟩
  · cases H
theorem ji_v1 {k : Value → List Value → Option jx_R} (H : jx_v1 st k = some y) : ∃ v r, st = v :: r ∧ v.category = 1 ∧ k v r = some y := by
  unfold jx_v1 at H; split at H
  · rename_i v r
    cases hc : Nat.beq v.category 1 with
    | true => rw [hc] at H; exact ⟨v, r, rfl, Nat.eq_of_beq_eq_true hc, H⟩
    | false => rw [hc] at H; cases H
  · cases H
theorem ji_swk {o : Option Int} {k : Int → Option jx_R} (H : jx_swk o k = some y) : ∃ off, o = some off ∧ k off = some y := by
  unfold jx_swk at H; split at H
  · exact ⟨_, rfl, H⟩
  · cases H
theorem ji_asI {v : Value} {k : Int32 → Option jx_R} (H : jx_asI v k = some y) : ∃ x, v = .int x ∧ k x = some y := by
  unfold jx_asI at H; split at H
  · exact ⟨_, rfl, H⟩
  · cases H
theorem ji_asL {v : Value} {k : Int64 → Option jx_R} (H : jx_asL v k = some y) : ∃ x, v = .long x ∧ k x = some y := by
  unfold jx_asL at H; split at H
  · exact ⟨_, rfl, H⟩
  · cases H
theorem ji_asR {v : Value} {k : Nat → Option jx_R} (H : jx_asR v k = some y) : ∃ x, v = .ref x ∧ k x = some y := by
  unfold jx_asR at H; split at H
  · exact ⟨_, rfl, H⟩
  · cases H
theorem ji_aty {t : ArrayType} {k : Nat → Option jx_R} (H : jx_aty t k = some y) : ∃ x, jx_atype t = some x ∧ k x = some y := by
  unfold jx_aty at H; split at H
  · exact ⟨_, by assumption, H⟩
  · cases H
theorem ji_bif {c : Bool} {k g : Option jx_R} (H : (bif c then k else g) = some y) : (c = true ∧ k = some y) ∨ (c = false ∧ g = some y) := by
  cases c
  · exact Or.inr ⟨rfl, H⟩
  · exact Or.inl ⟨rfl, H⟩
theorem ji_if {c : Prop} [Decidable c] {k g : Option jx_R} (H : (if c then k else g) = some y) : (c ∧ k = some y) ∨ (¬ c ∧ g = some y) := by
  split at H
  · exact Or.inl ⟨by assumption, H⟩
  · exact Or.inr ⟨by assumption, H⟩
theorem ji_cp {k : List Value → jx_H → Option jx_R} (H : jx_cp h st k = some y) : ∃ (n dp sp : Int32) (b a : Nat) (r : List Value), st = .int n :: .int dp :: .ref b :: .int sp :: .ref a :: r ∧ jx_catS r ≤ 8 ∧
    ((∃ n0 n1 f g, h[a]? = some (.inl (0, n0, .inl f)) ∧ h[b]? = some (.inl (0, n1, .inl g)) ∧ (¬ sp < 0 ∧ ¬ dp < 0 ∧ ¬ n < 0 ∧ sp.toNatClampNeg + n.toNatClampNeg ≤ n0 ∧ dp.toNatClampNeg + n.toNatClampNeg ≤ n1) ∧ k r (h.set b (.inl (0, n1, .inl (va_cpy f g sp.toNatClampNeg dp.toNatClampNeg n.toNatClampNeg)))) = some y) ∨
     (∃ n0 n1 f g, h[a]? = some (.inl (3, n0, .inr (.inl f))) ∧ h[b]? = some (.inl (3, n1, .inr (.inl g))) ∧ (¬ sp < 0 ∧ ¬ dp < 0 ∧ ¬ n < 0 ∧ sp.toNatClampNeg + n.toNatClampNeg ≤ n0 ∧ dp.toNatClampNeg + n.toNatClampNeg ≤ n1) ∧ k r (h.set b (.inl (3, n1, .inr (.inl (va_cpy f g sp.toNatClampNeg dp.toNatClampNeg n.toNatClampNeg))))) = some y)) := by
  unfold jx_cp at H; split at H
  · rename_i n dp b sp a r
    rcases ji_bif H with ⟨h1, H⟩ | ⟨_, H⟩
    · refine ⟨n, dp, sp, b, a, r, rfl, Nat.le_of_ble_eq_true h1, ?_⟩
      split at H
      · rename_i t n0 f t' n1 g e1 e2
        split at H
        · rename_i q
          obtain ⟨⟨rfl, rfl⟩, q⟩ := q
          exact Or.inl ⟨n0, n1, f, g, e1, e2, q, H⟩
        · cases H
      · rename_i t n0 f t' n1 g e1 e2
        split at H
        · rename_i q
          obtain ⟨⟨rfl, rfl⟩, q⟩ := q
          exact Or.inr ⟨n0, n1, f, g, e1, e2, q, H⟩
        · cases H
      · cases H
    · cases H
  · cases H
end JInv
