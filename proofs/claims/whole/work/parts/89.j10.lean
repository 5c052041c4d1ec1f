/-! ===== copy, join ===== -/
def upR (I : Nat → Nat → Int32) (c lo hi : Nat) (g : Nat → Int32) : Nat → Nat → Int32 := fun x y => if x = c ∧ lo ≤ y ∧ y < hi then g y else I x y
section UpR
variable {I : Nat → Nat → Int32} {c lo hi : Nat} {g : Nat → Int32}
theorem upR_ne {x : Nat} (h : x ≠ c) : upR I c lo hi g x = I x := by funext y; unfold upR; rw [if_neg (fun q => h q.1)]
theorem upR_in {y : Nat} (h1 : lo ≤ y) (h2 : y < hi) : upR I c lo hi g c y = g y := by unfold upR; rw [if_pos ⟨rfl, h1, h2⟩]
theorem upR_out {y : Nat} (h : y < lo ∨ hi ≤ y) : upR I c lo hi g c y = I c y := by unfold upR; rw [if_neg (by omega)]
theorem upR_0 (h : hi ≤ lo) : upR I c lo hi g = I := by funext x y; unfold upR; rw [if_neg (by omega)]
theorem upR_s {y lo' hi' : Nat} {v : Int32} (hv : v = g y) (h : ∀ z, (lo' ≤ z ∧ z < hi') ↔ ((lo ≤ z ∧ z < hi) ∨ z = y)) : up2 (upR I c lo hi g) c y v = upR I c lo' hi' g := by
  funext x
  by_cases hx : x = c
  · subst hx
    funext z
    rw [up2_eq]
    have hz := h z
    by_cases w : z = y
    · subst w
      have := hz.2 (Or.inr rfl)
      rw [pk_us, upR_in this.1 this.2, hv]
    · rw [pk_un w]
      by_cases q : lo ≤ z ∧ z < hi
      · have := hz.2 (Or.inl q)
        rw [upR_in q.1 q.2, upR_in this.1 this.2]
      · have : ¬ (lo' ≤ z ∧ z < hi') := fun r => Or.elim (hz.1 r) q w
        rw [upR_out (by omega), upR_out (by omega)]
  · rw [up2_ne hx, upR_ne hx, upR_ne hx]
end UpR
section Cal
variable {F : jx_F} {lv : Nat} {I I' : Nat → Nat → Int32} {J J' : Nat → Nat → Int64}
theorem sh_cp {α : Type} {a b sp dp N : Nat} {k : List Value → jx_H → Option α} (ha : Sh a) (hb : Sh b) (h1 : sp + N ≤ 10) (h2 : dp + N ≤ 10) : jx_cp (HH I J) [.int (nI N), .int (nI dp), .ref (b + 1), .int (nI sp), .ref (a + 1)] k = k [] (HH I (up1L J (b + 1) (va_cpy (J (a + 1)) (J (b + 1)) sp dp N))) := by
  have e1 := nI_clamp (show sp < 2 ^ 31 by omega)
  have e2 := nI_clamp (show dp < 2 ^ 31 by omega)
  have e3 := nI_clamp (show N < 2 ^ 31 by omega)
  have := m_cpl (I := I) (J := J) (n := nI N) (dp := nI dp) (sp := nI sp) (r := []) (k := k) ha.2 hb.2 (by decide) ⟨nI_pos (by omega), nI_pos (by omega), nI_pos (by omega), by rw [e1, e3]; exact h1, by rw [e2, e3]; exact h2⟩
  rw [e1, e2, e3] at this
  exact this
/-- a span of a sheet: both say no, or it is there -/
theorem span_alike {s z N : Nat} {i : Int32} (hs : s < 3) (hz : z ≤ 10) (hN : N < 2 ^ 31) (c : I (67 + 2 * s) 2 = nI z) (e : I' 81 s = nI z) :
    ((∀ J, rn F lv 38 [.ref (67 + 2 * s), .int i, .int (nI N)] (HH I J) = some (some (.int 0), HH I J)) ∧ (∀ J, rn F lv 166 [.ref 73, .int (nI s), .int i, .int (nI N)] (HH I' J) = some (some (.int 0), HH I' J))) ∨
    (∃ p, i = nI p ∧ p + N ≤ z ∧ (∀ J, rn F lv 38 [.ref (67 + 2 * s), .int i, .int (nI N)] (HH I J) = some (some (.int 1), HH I J)) ∧ (∀ J, rn F lv 166 [.ref 73, .int (nI s), .int i, .int (nI N)] (HH I' J) = some (some (.int 1), HH I' J))) := by
  have hS := sh_s hs
  by_cases q1 : i < 0
  · refine Or.inl ⟨fun J => ?_, fun J => ?_⟩
    · rw [holds_eq hS, if_pos q1]
    · simp only [e_Model_isSpan, s_Model_isSpan_0, s_Model_isSpan_1, s_Model_isSpan_4, s_Model_isSpan_5, s_Model_isSpan_6, s_Model_isSpan_7, s_Model_isSpan_8, s_Model_isSpan_9, s_Model_isSpan_10, s_Model_isSpan_13, s_Model_isSpan_14, s_Model_isSpan_15, s_Model_isSpan_16, s_Model_isSpan_17, s_Model_isSpan_20, s_Model_isSpan_21, s_Model_isSpan_24, rz_Model_isSpan_25, ro_Model_isSpan_25, if_pos q1]
  · obtain ⟨p, hp, rfl⟩ := nI_of q1
    have el : (nI p).toInt64 + (nI N).toInt64 = lN (p + N) := by rw [nI_l hp, nI_l hN, lN_add]
    have ez : (nI z).toInt64 = lN z := nI_l (by omega)
    have ec : (0 < lg_cmp (lN (p + N)) (lN z)) ↔ z < p + N := by rw [lg_cmp_gt, pk_lLT (by omega) (by omega)]
    by_cases q2 : p + N ≤ z
    · refine Or.inr ⟨p, rfl, q2, fun J => ?_, fun J => ?_⟩
      · rw [holds_eq hS, c, if_neg q1, if_neg (nI_nlt (by omega) (by omega)), if_neg (nI_pos hN), pk_sub (by omega), if_neg (nI_nlt (by omega) (by omega))]
      · simp only [e_Model_isSpan, s_Model_isSpan_0, s_Model_isSpan_1, s_Model_isSpan_4, s_Model_isSpan_5, s_Model_isSpan_6, s_Model_isSpan_7, s_Model_isSpan_8, s_Model_isSpan_9, s_Model_isSpan_10, s_Model_isSpan_13, s_Model_isSpan_14, s_Model_isSpan_15, s_Model_isSpan_16, s_Model_isSpan_17, s_Model_isSpan_20, s_Model_isSpan_21, s_Model_isSpan_24, rz_Model_isSpan_25, ro_Model_isSpan_25, if_neg q1, g_73_10, g81 hs, e, el, ez, ec, if_neg (show ¬ z < p + N by omega)]
    · refine Or.inl ⟨fun J => ?_, fun J => ?_⟩
      · rw [holds_eq hS, c, if_neg q1]
        by_cases q3 : z < p
        · rw [if_pos (nI_lt q3 hp)]
        · rw [if_neg (nI_nlt (by omega) (by omega)), if_neg (nI_pos hN), pk_sub (by omega), if_pos (nI_lt (by omega) hN)]
      · simp only [e_Model_isSpan, s_Model_isSpan_0, s_Model_isSpan_1, s_Model_isSpan_4, s_Model_isSpan_5, s_Model_isSpan_6, s_Model_isSpan_7, s_Model_isSpan_8, s_Model_isSpan_9, s_Model_isSpan_10, s_Model_isSpan_13, s_Model_isSpan_14, s_Model_isSpan_15, s_Model_isSpan_16, s_Model_isSpan_17, s_Model_isSpan_20, s_Model_isSpan_21, s_Model_isSpan_24, rz_Model_isSpan_25, ro_Model_isSpan_25, if_neg q1, g_73_10, g81 hs, e, el, ez, ec, if_pos (show z < p + N by omega)]
theorem mcp_f {f t i j N : Nat} (hf : f < 3) (ht : t < 3) (h1 : i + N ≤ 10) (h2 : j + N ≤ 10) (hij : j ≤ i) : ∀ (c k : Nat) (v8 : Value), k + c = N → ev F lv jm_Model_copy 106 [.ref 73, .int (nI f), .int (nI i), .int (nI t), .int (nI j), .int (nI N), .int 0, .int (nI k), v8] [] (HH (upR I 82 (10 * t + j) (10 * t + j + k) (fun y => I 82 (y - (10 * t + j) + (10 * f + i)))) J) = some (some (.int (nI N)), HH (upR I 82 (10 * t + j) (10 * t + j + N) (fun y => I 82 (y - (10 * t + j) + (10 * f + i)))) J) := by
  intro c
  induction c with
  | zero =>
    intro k v8 hk
    obtain rfl : k = N := by omega
    rw [s_Model_copy_106]
    simp only [s_Model_copy_108, s_Model_copy_110, if_pos (nI_le (Nat.le_refl k) (show k < 2 ^ 31 by omega)), s_Model_copy_167, s_Model_copy_169]
  | succ c ih =>
    intro k v8 hk
    have er : upR I 82 (10 * t + j) (10 * t + j + k) (fun y => I 82 (y - (10 * t + j) + (10 * f + i))) 82 (10 * f + i + k) = I 82 (10 * f + i + k) := upR_out (by omega)
    rw [s_Model_copy_106]
    simp only [s_Model_copy_108, s_Model_copy_110, if_neg (nI_ge (show k < N by omega) (show N < 2 ^ 31 by omega)), s_Model_copy_113, s_Model_copy_115, if_true, s_Model_copy_128, s_Model_copy_130, s_Model_copy_132, s_Model_copy_133, s_Model_copy_136, s_Model_copy_138, s_Model_copy_139, s_Model_copy_140, s_Model_copy_142, s_Model_copy_143, s_Model_copy_145, s_Model_copy_146, s_Model_copy_147, s_Model_copy_150, s_Model_copy_152, s_Model_copy_153, s_Model_copy_154, s_Model_copy_155, s_Model_copy_156, s_Model_copy_158, s_Model_copy_159, s_Model_copy_160, s_Model_copy_161, s_Model_copy_164, g_73_11, m10, nI_add, g82 (show 10 * f + i + k < 30 by omega), er, p82 (show 10 * t + j + k < 30 by omega), nI_1]
    have eu : up2 (upR I 82 (10 * t + j) (10 * t + j + k) (fun y => I 82 (y - (10 * t + j) + (10 * f + i)))) 82 (10 * t + j + k) (I 82 (10 * f + i + k)) = upR I 82 (10 * t + j) (10 * t + j + (k + 1)) (fun y => I 82 (y - (10 * t + j) + (10 * f + i))) :=
      upR_s (by show _ = I 82 (10 * t + j + k - (10 * t + j) + (10 * f + i)); congr 1; omega) (fun z => by omega)
    rw [eu]
    exact ih (k + 1) _ (by omega)
theorem mcp_b {f t i j N : Nat} (hf : f < 3) (ht : t < 3) (h1 : i + N ≤ 10) (h2 : j + N ≤ 10) (hij : i < j) : ∀ (c k : Nat) (v8 : Value), k + c = N → ev F lv jm_Model_copy 106 [.ref 73, .int (nI f), .int (nI i), .int (nI t), .int (nI j), .int (nI N), .int 1, .int (nI k), v8] [] (HH (upR I 82 (10 * t + j + (N - k)) (10 * t + j + N) (fun y => I 82 (y - (10 * t + j) + (10 * f + i)))) J) = some (some (.int (nI N)), HH (upR I 82 (10 * t + j) (10 * t + j + N) (fun y => I 82 (y - (10 * t + j) + (10 * f + i)))) J) := by
  intro c
  induction c with
  | zero =>
    intro k v8 hk
    obtain rfl : k = N := by omega
    rw [s_Model_copy_106]
    simp only [s_Model_copy_108, s_Model_copy_110, if_pos (nI_le (Nat.le_refl k) (show k < 2 ^ 31 by omega)), s_Model_copy_167, s_Model_copy_169]
    rw [show 10 * t + j + (k - k) = 10 * t + j by omega]
  | succ c ih =>
    intro k v8 hk
    have ea : nI N - 1 - nI k = nI (N - 1 - k) := by rw [show nI N - 1 = nI (N - 1) from pk_sub (show 1 ≤ N by omega), pk_sub (show k ≤ N - 1 by omega)]
    have er : upR I 82 (10 * t + j + (N - k)) (10 * t + j + N) (fun y => I 82 (y - (10 * t + j) + (10 * f + i))) 82 (10 * f + i + (N - 1 - k)) = I 82 (10 * f + i + (N - 1 - k)) := upR_out (by omega)
    rw [s_Model_copy_106]
    simp only [s_Model_copy_108, s_Model_copy_110, if_neg (nI_ge (show k < N by omega) (show N < 2 ^ 31 by omega)), s_Model_copy_113, s_Model_copy_115, if_neg (show ¬ (1 : Int32) = 0 by decide), s_Model_copy_118, s_Model_copy_120, s_Model_copy_121, s_Model_copy_122, s_Model_copy_124, ea, s_Model_copy_125, s_Model_copy_130, s_Model_copy_132, s_Model_copy_133, s_Model_copy_136, s_Model_copy_138, s_Model_copy_139, s_Model_copy_140, s_Model_copy_142, s_Model_copy_143, s_Model_copy_145, s_Model_copy_146, s_Model_copy_147, s_Model_copy_150, s_Model_copy_152, s_Model_copy_153, s_Model_copy_154, s_Model_copy_155, s_Model_copy_156, s_Model_copy_158, s_Model_copy_159, s_Model_copy_160, s_Model_copy_161, s_Model_copy_164, g_73_11, m10, nI_add, g82 (show 10 * f + i + (N - 1 - k) < 30 by omega), er, p82 (show 10 * t + j + (N - 1 - k) < 30 by omega), nI_1]
    have eu : up2 (upR I 82 (10 * t + j + (N - k)) (10 * t + j + N) (fun y => I 82 (y - (10 * t + j) + (10 * f + i)))) 82 (10 * t + j + (N - 1 - k)) (I 82 (10 * f + i + (N - 1 - k))) = upR I 82 (10 * t + j + (N - (k + 1))) (10 * t + j + N) (fun y => I 82 (y - (10 * t + j) + (10 * f + i))) :=
      upR_s (by show _ = I 82 (10 * t + j + (N - 1 - k) - (10 * t + j) + (10 * f + i)); congr 1; omega) (fun z => by omega)
    rw [eu]
    exact ih (k + 1) _ (by omega)
theorem jn_loop {a b z N : Nat} (ha : a < 3) (hb : b < 3) (h1 : z + N ≤ 10) (hz : a = b → N ≤ z) (e : I 81 a = nI z) : ∀ (c k : Nat), k + c = N → ev F lv jm_Model_join 64 [.ref 73, .int (nI a), .int (nI b), .int (nI N), .int (nI k)] [] (HH (upR I 82 (10 * a + z) (10 * a + z + k) (fun y => I 82 (y - (10 * a + z) + 10 * b))) J) = some (some (.int (nI (z + N))), HH (up2 (upR I 82 (10 * a + z) (10 * a + z + N) (fun y => I 82 (y - (10 * a + z) + 10 * b))) 81 a (nI (z + N))) J) := by
  intro c
  induction c with
  | zero =>
    intro k hk
    obtain rfl : k = N := by omega
    have e' : upR I 82 (10 * a + z) (10 * a + z + k) (fun y => I 82 (y - (10 * a + z) + 10 * b)) 81 a = nI z := by rw [upR_ne (by decide)]; exact e
    rw [s_Model_join_64]
    simp only [s_Model_join_66, s_Model_join_67, if_pos (nI_le (Nat.le_refl k) (show k < 2 ^ 31 by omega)), s_Model_join_107, s_Model_join_108, s_Model_join_111, s_Model_join_112, s_Model_join_113, s_Model_join_114, s_Model_join_115, s_Model_join_116, s_Model_join_117, s_Model_join_118, s_Model_join_121, s_Model_join_122, s_Model_join_123, g_73_10, g81 ha, e', nI_add, p81 ha, up2_eq, pk_us]
  | succ c ih =>
    intro k hk
    have e' : upR I 82 (10 * a + z) (10 * a + z + k) (fun y => I 82 (y - (10 * a + z) + 10 * b)) 81 a = nI z := by rw [upR_ne (by decide)]; exact e
    have er : upR I 82 (10 * a + z) (10 * a + z + k) (fun y => I 82 (y - (10 * a + z) + 10 * b)) 82 (10 * b + k) = I 82 (10 * b + k) := by
      apply upR_out
      by_cases w : a = b
      · subst w; have := hz rfl; omega
      · omega
    rw [s_Model_join_64]
    simp only [s_Model_join_66, s_Model_join_67, if_neg (nI_ge (show k < N by omega) (show N < 2 ^ 31 by omega)), s_Model_join_70, s_Model_join_71, s_Model_join_74, s_Model_join_76, s_Model_join_77, s_Model_join_78, s_Model_join_79, s_Model_join_82, s_Model_join_83, s_Model_join_84, s_Model_join_85, s_Model_join_87, s_Model_join_88, s_Model_join_89, s_Model_join_92, s_Model_join_94, s_Model_join_95, s_Model_join_96, s_Model_join_98, s_Model_join_99, s_Model_join_100, s_Model_join_101, s_Model_join_104, g_73_10, g_73_11, g81 ha, e', m10, nI_add, g82 (show 10 * b + k < 30 by omega), er, p82 (show 10 * a + z + k < 30 by omega), nI_1]
    have eu : up2 (upR I 82 (10 * a + z) (10 * a + z + k) (fun y => I 82 (y - (10 * a + z) + 10 * b))) 82 (10 * a + z + k) (I 82 (10 * b + k)) = upR I 82 (10 * a + z) (10 * a + z + (k + 1)) (fun y => I 82 (y - (10 * a + z) + 10 * b)) :=
      upR_s (by show _ = I 82 (10 * a + z + k - (10 * a + z) + 10 * b); congr 1; omega) (fun y => by omega)
    rw [eu]
    exact ih (k + 1) (by omega)
end Cal
