/-! ===== Sheet ===== -/
/-- a sheet at cell s -/
def Sh (s : Nat) : Prop := lay[s]? = some (100 + 2, 3, [some (s + 1), none, none]) ∧ lay[s + 1]? = some (3, 10, [])
theorem sh_67 : Sh 67 := ⟨rfl, rfl⟩
theorem sh_69 : Sh 69 := ⟨rfl, rfl⟩
theorem sh_71 : Sh 71 := ⟨rfl, rfl⟩
section Sht
variable {F : jx_F} {lv : Nat} {I : Nat → Nat → Int32} {J : Nat → Nat → Int64} {s : Nat} {α : Type}
theorem sh_0 (h : Sh s) {k : Value → Option α} : jx_gf (HH I J) s 2 0 k = k (.ref (s + 1)) := m_gfr h.1 rfl
theorem sh_1 (h : Sh s) {k : Value → Option α} : jx_gf (HH I J) s 2 1 k = k (.int (I s 1)) := m_gfi h.1 rfl
theorem sh_2 (h : Sh s) {k : Value → Option α} : jx_gf (HH I J) s 2 2 k = k (.int (I s 2)) := m_gfi h.1 rfl
theorem sh_p1 (h : Sh s) {x : Int32} {k : jx_H → Option α} : jx_pf (HH I J) s 2 1 (.int x) k = k (HH (up2 I s 1 x) J) := m_pf h.1 rfl
theorem sh_p2 (h : Sh s) {x : Int32} {k : jx_H → Option α} : jx_pf (HH I J) s 2 2 (.int x) k = k (HH (up2 I s 2 x) J) := m_pf h.1 rfl
theorem sh_g (h : Sh s) {i : Int32} {k : Int64 → Option α} : jx_gl (HH I J) (s + 1) i k = jx_at i 10 (k (J (s + 1) i.toNatClampNeg)) := m_gl h.2
theorem sh_p (h : Sh s) {i : Int32} {x : Int64} {k : jx_H → Option α} : jx_pl (HH I J) (s + 1) i x k = jx_at i 10 (k (HH I (up2L J (s + 1) i.toNatClampNeg x))) := m_pl h.2
theorem sh_rcv (h : Sh s) {as : List Value} : jx_rcv F (HH I J) 2 (.ref s :: as) = true := m_rcv h.1
theorem miss_eq (h : Sh s) : rn F lv 35 [.ref s] (HH I J) = if I s 1 = -1 then some (some (.int 1), HH I J) else some (some (.int 0), HH I J) := by
  simp only [e_Sheet_isMissing, s_Sheet_isMissing_0, s_Sheet_isMissing_1, s_Sheet_isMissing_4, s_Sheet_isMissing_5, s_Sheet_isMissing_8, s_Sheet_isMissing_9, s_Sheet_isMissing_12, rz_Sheet_isMissing_13, ro_Sheet_isMissing_13, sh_1 h]
theorem lose_eq (h : Sh s) : rn F lv 37 [.ref s] (HH I J) = some (none, HH (up2 (up2 I s 1 (-1)) s 2 0) J) := by
  simp only [e_Sheet_lose, s_Sheet_lose_0, s_Sheet_lose_1, s_Sheet_lose_2, s_Sheet_lose_5, s_Sheet_lose_6, s_Sheet_lose_7, s_Sheet_lose_10, sh_p1 h, sh_p2 h]
theorem holds_eq (h : Sh s) {x y : Int32} : rn F lv 38 [.ref s, .int x, .int y] (HH I J) = if x < 0 then some (some (.int 0), HH I J) else if I s 2 < x then some (some (.int 0), HH I J) else if y < 0 then some (some (.int 0), HH I J) else if I s 2 - x < y then some (some (.int 0), HH I J) else some (some (.int 1), HH I J) := by
  simp only [e_Sheet_holds, s_Sheet_holds_0, s_Sheet_holds_1, s_Sheet_holds_4, s_Sheet_holds_5, s_Sheet_holds_6, s_Sheet_holds_9, s_Sheet_holds_12, s_Sheet_holds_13, s_Sheet_holds_16, s_Sheet_holds_17, s_Sheet_holds_18, s_Sheet_holds_21, s_Sheet_holds_22, s_Sheet_holds_23, s_Sheet_holds_26, s_Sheet_holds_27, s_Sheet_holds_30, rz_Sheet_holds_31, ro_Sheet_holds_31, sh_2 h]
def totJ (J : Nat → Nat → Int64) (s : Nat) : Nat → Nat → Int64 → Int64
  | _, 0, b => b
  | i, c + 1, b => totJ J s (i + 1) c (b + J (s + 1) i)
theorem tot_loop {n : Nat} (h : Sh s) (e : I s 2 = nI n) (hn : n ≤ 10) : ∀ (c i : Nat) (b : Int64), i + c = n → ev F lv jm_Sheet_total 4 [.ref s, .long b, jx_junk, .int (nI i)] [] (HH I J) = some (some (.long (totJ J s i c b)), HH I J) := by
  intro c
  induction c with
  | zero =>
    intro i b hi
    obtain rfl : i = n := by omega
    rw [s_Sheet_total_4]
    simp only [s_Sheet_total_0, s_Sheet_total_1, s_Sheet_total_2, s_Sheet_total_3, s_Sheet_total_5, s_Sheet_total_6, s_Sheet_total_9, s_Sheet_total_12, s_Sheet_total_13, s_Sheet_total_14, s_Sheet_total_17, s_Sheet_total_18, s_Sheet_total_19, s_Sheet_total_20, s_Sheet_total_21, s_Sheet_total_24, s_Sheet_total_27, s_Sheet_total_28, sh_2 h, e, if_pos (nI_le (Nat.le_refl i) (show i < 2 ^ 31 by omega)), totJ]
  | succ c ih =>
    intro i b hi
    rw [s_Sheet_total_4]
    simp only [s_Sheet_total_0, s_Sheet_total_1, s_Sheet_total_2, s_Sheet_total_3, s_Sheet_total_5, s_Sheet_total_6, s_Sheet_total_9, s_Sheet_total_12, s_Sheet_total_13, s_Sheet_total_14, s_Sheet_total_17, s_Sheet_total_18, s_Sheet_total_19, s_Sheet_total_20, s_Sheet_total_21, s_Sheet_total_24, s_Sheet_total_27, s_Sheet_total_28, sh_0 h, sh_2 h, e, if_neg (nI_ge (show i < n by omega) (show n < 2 ^ 31 by omega)), sh_g h, at_in (show i < 10 by omega) (show 10 < 2 ^ 31 by decide), nI_clamp (show i < 2 ^ 31 by omega), nI_1, ih (i + 1) _ (show i + 1 + c = n by omega), totJ]
theorem tot_in {n : Nat} (h : Sh s) (e : I s 2 = nI n) (hn : n ≤ 10) : rn F lv 39 [.ref s] (HH I J) = some (some (.long (totJ J s 0 n 0)), HH I J) := by
  simp only [e_Sheet_total, s_Sheet_total_0, s_Sheet_total_1, s_Sheet_total_2, s_Sheet_total_3, s_Sheet_total_5, s_Sheet_total_6, s_Sheet_total_9, s_Sheet_total_12, s_Sheet_total_13, s_Sheet_total_14, s_Sheet_total_17, s_Sheet_total_18, s_Sheet_total_19, s_Sheet_total_20, s_Sheet_total_21, s_Sheet_total_24, s_Sheet_total_27, s_Sheet_total_28]
  exact tot_loop h e hn n 0 0 (by omega)
end Sht
