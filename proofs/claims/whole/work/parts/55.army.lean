/-! ===== Army: passDay, pass, the army stays well ===== -/
section Arm
variable {F : jx_F} {lv : Nat} {I : Nat → Nat → Int32} {J : Nat → Nat → Int64} {a : Nat}
theorem lost_k (l : Int64) (j : Nat) : ∃ k : Nat, k < 256 ∧ lostB l j = nI k := by
  obtain ⟨k, hk, e⟩ := pk_andE ((l.toUInt64 >>> ((8 * nI j).toInt64.toUInt64 &&& Int64.toUInt64 63)).toInt64.toInt32) (m := 255) 8 (by decide)
  exact ⟨k, hk, e⟩
theorem loss_k {l : Int64} {j b : Nat} (hb : b ≤ 6) (e : I (a + 2) j = nI b) {k : Nat} (hk : k < 256) (e2 : lostB l j = nI k) : lossB I a l j = nI (b - k) := by
  unfold lossB
  rw [e, e2]
  by_cases q : k < b
  · rw [pk_sub (by omega), if_pos (show 0 < nI (b - k) from nI_lt (a := 0) (by omega) (by omega))]
  · have : ¬ (0 : Int32) < nI b - nI k := by
      rw [Int32.lt_iff_toInt_lt, pk_sub_toInt (by omega) (by omega), show (0 : Int32).toInt = 0 from by decide]
      omega
    rw [if_neg this, show b - k = 0 by omega]; rfl
theorem wf_up {n k : Nat} {g : Nat → Int32} (w : Wf I a n) (hg : ∀ j, j < 2 * n → ∃ b, b ≤ 6 ∧ g j = nI b) : Wf (upTo I (a + 2) g k) a n := by
  refine ⟨mn_up (by omega) w.mn, ?_, ?_, ?_⟩
  · rw [upTo_ne (show a + 1 ≠ a + 2 by omega)]; exact w.kd
  · intro j hj
    by_cases q : j < k
    · rw [upTo_lt q]; exact hg j hj
    · rw [upTo_ge (by omega)]; exact w.bt j hj
  · rw [upTo_ne (show a + 3 ≠ a + 2 by omega)]; exact w.md
theorem wf_d {n : Nat} {x : Int32} (w : Wf I a n) : Wf (up2 I a 4 x) a n := by
  unfold Wf Mn
  rw [up2_eq, up2_ne (show a + 1 ≠ a by omega), up2_ne (show a + 2 ≠ a by omega), up2_ne (show a + 3 ≠ a by omega), show upd (I a) 4 x 3 = I a 3 from pk_un (by decide)]
  exact w
theorem wf_shot {n : Nat} (w : Wf I a n) : Wf (shotI I a n) a n := by
  unfold shotI
  apply wf_up (wf_d w)
  intro j hj
  obtain ⟨b, hb, e⟩ := w.bt j hj
  obtain ⟨k, hk, e2⟩ := lost_k (hitL I a n 0 (2 * n) 0) j
  exact ⟨b - k, by omega, loss_k hb e hk e2⟩
theorem wf_ham {n k : Nat} (w : Wf I a n) : Wf (upTo I (a + 2) (hamB I a) k) a n := by
  apply wf_up w
  intro j hj
  obtain ⟨b, hb, e⟩ := w.bt j hj
  unfold hamB
  split
  · exact ⟨b, hb, e⟩
  · split
    · exact ⟨b, hb, e⟩
    · rw [e, nI_1]
      by_cases q : b + 1 < 6
      · rw [if_pos (show nI (b + 1) < 6 from nI_lt (b := 6) q (by decide))]; exact ⟨b + 1, by omega, rfl⟩
      · rw [if_neg (show ¬ nI (b + 1) < 6 from nI_nlt (b := 6) (by omega) (by omega))]; exact ⟨6, by omega, rfl⟩
theorem wf_day {n : Nat} (w : Wf I a n) : Wf (dayI I a n) a n := by
  unfold dayI
  split
  · exact wf_ham (wf_shot w)
  · exact wf_shot w
theorem lossB_d {l : Int64} {x : Int32} : lossB (up2 I a 4 x) a l = lossB I a l := by
  funext j; unfold lossB; rw [up2_ne (show a + 2 ≠ a by omega)]
theorem shot_d {n : Nat} : shotI I a n a 4 = I a 4 + 1 := by
  unfold shotI
  rw [upTo_ne (show a ≠ a + 2 by omega), up2_eq]; exact pk_us
theorem passDay_in {n : Nat} (h : Ar a) (w : Wf I a n) : rn F (lv + 4) 13 [.ref a] (HH I J) = some (none, HH (dayI I a n) J) := by
  have hn := w.mn
  have := hn.2.2
  have w1 : Wf (up2 I a 4 (I a 4 + 1)) a n := wf_d w
  obtain ⟨v1, l1⟩ := hits_loop (F := F) (lv := lv) (J := J) h hn (2 * n) 0 0 jx_junk (by omega)
  obtain ⟨v2, l2⟩ := loss_loop (F := F) (lv := lv) (J := J) h w1.mn (hitL I a n 0 (2 * n) 0) (2 * n) 0 v1 (by omega)
  rw [upTo_0, lossB_d] at l2
  rw [e_Army_passDay]
  simp only [s_Army_passDay_0, s_Army_passDay_1, s_Army_passDay_2, s_Army_passDay_3]
  refine Eq.trans l1 ?_
  simp only [s_Army_passDay_55, s_Army_passDay_56, s_Army_passDay_57, s_Army_passDay_60, s_Army_passDay_61, s_Army_passDay_62, s_Army_passDay_65, s_Army_passDay_66, ar_day h, ar_pday h]
  refine Eq.trans l2 ?_
  have e : upTo (up2 I a 4 (I a 4 + 1)) (a + 2) (lossB I a (hitL I a n 0 (2 * n) 0)) (2 * n) = shotI I a n := rfl
  rw [e]
  simp only [s_Army_passDay_115, s_Army_passDay_116, s_Army_passDay_119, s_Army_passDay_120, s_Army_passDay_121, s_Army_passDay_124, s_Army_passDay_125 (ar_rcv h), ar_day h, shot_d, if_neg (show ¬ (4 : Int32) = 0 by decide), ham_in h (wf_shot w), Option.bind_some, Option.toList_some, Option.toList_none, List.cons_append, List.nil_append, i10, i01, if_false, if_true, nI_add, nI_1, s_Army_passDay_128]
  unfold dayI
  split <;> rfl
/-- behind c days -/
def daysI (I : Nat → Nat → Int32) (a n : Nat) : Nat → Nat → Nat → Int32
  | 0 => I
  | c + 1 => daysI (dayI I a n) a n c
theorem wf_days {n : Nat} : ∀ (c : Nat) {I : Nat → Nat → Int32}, Wf I a n → Wf (daysI I a n c) a n := by
  intro c
  induction c with
  | zero => intro I w; exact w
  | succ c ih => intro I w; exact ih (wf_day w)
theorem pass_loop {n D : Nat} (hD : D < 2 ^ 31) (h : Ar a) : ∀ (c d : Nat) (I : Nat → Nat → Int32), Wf I a n → d + c = D → ev F (lv + 5) jm_Army_pass 2 [.ref a, .int (nI D), .int (nI d)] [] (HH I J) = some (none, HH (daysI I a n c) J) := by
  intro c
  induction c with
  | zero =>
    intro d I w hd
    obtain rfl : d = D := by omega
    simp only [s_Army_pass_0, s_Army_pass_1, s_Army_pass_2, s_Army_pass_3, s_Army_pass_4, s_Army_pass_7, s_Army_pass_8 (ar_rcv h), s_Army_pass_11, s_Army_pass_14, s_Army_pass_17, if_pos (nI_le (Nat.le_refl d) hD), daysI]
  | succ c ih =>
    intro d I w hd
    rw [s_Army_pass_2]
    simp only [s_Army_pass_0, s_Army_pass_1, s_Army_pass_3, s_Army_pass_4, s_Army_pass_7, s_Army_pass_8 (ar_rcv h), s_Army_pass_11, s_Army_pass_14, s_Army_pass_17, if_neg (nI_ge (show d < D by omega) hD), passDay_in h w, Option.bind_some, Option.toList_some, Option.toList_none, List.cons_append, List.nil_append, i10, i01, if_false, if_true, nI_add, nI_1, ih (d + 1) _ (wf_day w) (show d + 1 + c = D by omega), daysI]
theorem pass_in {n D : Nat} (hD : D < 2 ^ 31) (h : Ar a) (w : Wf I a n) : rn F (lv + 5) 12 [.ref a, .int (nI D)] (HH I J) = some (none, HH (daysI I a n D) J) := by
  rw [e_Army_pass]
  simp only [s_Army_pass_0, s_Army_pass_1]
  exact pass_loop hD h D 0 I w (by omega)
end Arm
