section JArms4
variable {SZ : Nat} {fa : Nat → Nat} {cA : Nat → ClassId} {D : va_G} {F : jx_F} {lv nL : Nat} {own : String} {cc : ByteArray} {ini : Bool} {M : jx_M} {pc : Nat} {L st : List Value} {h : jx_H} {z : jx_S}
theorem ja_newarray {t : ArrayType} (hi : jx_ins lv F M pc L st h (.newarray t) = some (.inr (.inl z))) : jx_Arm SZ fa cA D F lv nL own cc ini (.newarray t) pc L st h z := by
  obtain ⟨n, r, rfl, hi1⟩ := ji_i1 hi
  obtain ⟨k, hk, hi2⟩ := ji_aty hi1
  rcases ji_if hi2 with ⟨_, hi3⟩ | ⟨hn0, hi3⟩
  · cases hi3
  have hn1 : ¬ n < 0 := fun q => hn0 (Or.inl q)
  have hn2 : n.toNatClampNeg ≤ 1000 := Nat.not_lt.mp fun q => hn0 (Or.inr q)
  obtain rfl := ji_to hi3
  refine ⟨jx_le_app, fun n0 z0 p l e R s m args below meth c H locs ls Q C hd hR hn hz hc1 hc2 K => ?_⟩
  have hs : jx_sz (h ++ [.inl (k, n.toNatClampNeg, jx_zero k)]) = jx_sz h + n.toNatClampNeg := jx_sz_app
  have hl : (h ++ [Sum.inl (k, n.toNatClampNeg, jx_zero k)]).length = h.length + 1 := by simp
  refine jx_hs C.2.2.2.2.2.2.2.1 hn hR.1 hR.2.1 (fun hHs => ?_)
  obtain ⟨hx, hb, hml, hts, hown, hKn, hFA, hsz, hfr, hlo, hin⟩ := C
  have c1 : h.length - n0 + 1 ≤ R.cells := by have : (h ++ [Sum.inl (k, n.toNatClampNeg, jx_zero k)]).length - n0 ≤ R.cells := hc1; rw [hl] at this; omega
  have c2 : jx_sz h - z0 + n.toNatClampNeg ≤ R.slots := by have : jx_sz (h ++ [Sum.inl (k, n.toNatClampNeg, jx_zero k)]) - z0 ≤ R.slots := hc2; rw [hs] at this; omega
  have e1 : (h ++ [Sum.inl (k, n.toNatClampNeg, jx_zero k)]).length - n0 = h.length - n0 + 1 := by rw [hl]; omega
  have e2 : jx_sz (h ++ [Sum.inl (k, n.toNatClampNeg, jx_zero k)]) - z0 = jx_sz h - z0 + n.toNatClampNeg := by rw [hs]; omega
  have hby : ∀ k : Nat, k ≤ 8 → n.toNatClampNeg * k ≤ 536870912 := fun k hk => Nat.le_trans (Nat.mul_le_mul hn2 hk) (by decide)
  cases t with
  | boolean =>
    cases hk
    refine va_newaK (atype := .boolean) hx hb (hts _ jg_ar_boolean) rfl (jd_k hd rfl rfl) rfl hn1 rfl (hby _ (by decide)) c1 c2 hHs fun H1 cB g1 g2 g3 g4 g5 => ?_
    have hcB : cB = cA 2 := Option.some.inj (g5.symm.trans (hKn.1.2 2 (cA 2, .boolean) rfl).2)
    subst hcB
    obtain ⟨p1, p2⟩ := jx_push (e := .inl (2, n.toNatClampNeg, jx_zero 2)) hHs hR.1 hR.2.1 g2 g3 g1
    exact W.cs e1.symm e2.symm (K H1 locs ls ⟨p1, p2, hR.2.2⟩)
  | char =>
    cases hk
    refine va_newaK (atype := .char) hx hb (hts _ jg_ar_char) rfl (jd_k hd rfl rfl) rfl hn1 rfl (hby _ (by decide)) c1 c2 hHs fun H1 cB g1 g2 g3 g4 g5 => ?_
    have hcB : cB = cA 1 := Option.some.inj (g5.symm.trans (hKn.1.2 1 (cA 1, .char) rfl).2)
    subst hcB
    obtain ⟨p1, p2⟩ := jx_push (e := .inl (1, n.toNatClampNeg, jx_zero 1)) hHs hR.1 hR.2.1 g2 g3 g1
    exact W.cs e1.symm e2.symm (K H1 locs ls ⟨p1, p2, hR.2.2⟩)
  | int =>
    cases hk
    refine va_newaK (atype := .int) hx hb (hts _ jg_ar_int) rfl (jd_k hd rfl rfl) rfl hn1 rfl (hby _ (by decide)) c1 c2 hHs fun H1 cB g1 g2 g3 g4 g5 => ?_
    have hcB : cB = cA 0 := Option.some.inj (g5.symm.trans (hKn.1.2 0 (cA 0, .int) rfl).2)
    subst hcB
    obtain ⟨p1, p2⟩ := jx_push (e := .inl (0, n.toNatClampNeg, jx_zero 0)) hHs hR.1 hR.2.1 g2 g3 g1
    exact W.cs e1.symm e2.symm (K H1 locs ls ⟨p1, p2, hR.2.2⟩)
  | long =>
    cases hk
    refine va_newaK (atype := .long) hx hb (hts _ jg_ar_long) rfl (jd_k hd rfl rfl) rfl hn1 rfl (hby _ (by decide)) c1 c2 hHs fun H1 cB g1 g2 g3 g4 g5 => ?_
    have hcB : cB = cA 3 := Option.some.inj (g5.symm.trans (hKn.1.2 3 (cA 3, .long) rfl).2)
    subst hcB
    obtain ⟨p1, p2⟩ := jx_push (e := .inl (3, n.toNatClampNeg, jx_zero 3)) hHs hR.1 hR.2.1 g2 g3 g1
    exact W.cs e1.symm e2.symm (K H1 locs ls ⟨p1, p2, hR.2.2⟩)
  | _ => cases hk
theorem ja_anewarray {k : Nat} (hpool : ∀ q ∈ M.1, jx_okP jx_nm own q.1 q.2) (hi : jx_ins lv F M pc L st h (.anewarray k) = some (.inr (.inl z))) : jx_Arm SZ fa cA D F lv nL own cc ini (.anewarray k) pc L st h z := by
  obtain ⟨t, ci, b, zz, hq, hi1⟩ := ji_pt hi
  have hok := hpool _ (jx_as_mem hq)
  rcases ji_bif hi1 with ⟨ht, hi2⟩ | ⟨_, hi2⟩
  · obtain ⟨n, r, rfl, hi3⟩ := ji_i1 hi2
    rcases ji_if hi3 with ⟨_, hi4⟩ | ⟨hn0, hi4⟩
    · cases hi4
    · have hn1 : ¬ n < 0 := fun q => hn0 (Or.inl (Or.inl q))
      have hn2 : n.toNatClampNeg ≤ 1000 := Nat.not_lt.mp fun q => hn0 (Or.inl (Or.inr q))
      have hrs : jx_rs (10 + ci) = true := by
        cases hb : jx_rs (10 + ci) with
        | true => rfl
        | false => exact absurd (Or.inr hb) hn0
      obtain rfl := ji_to hi4
      cases Nat.eq_of_beq_eq_true ht
      obtain ⟨rr, hcl, hlk⟩ := hok
      refine ⟨jx_le_app, fun n0 z0 p l e R s m args below meth c H locs ls Q C hd hR hn hz hc1 hc2 K => ?_⟩
      have hs : jx_sz (h ++ [.inl (10 + ci, n.toNatClampNeg, .inr (.inr fun _ => none))]) = jx_sz h + n.toNatClampNeg := jx_sz_app
      have hl : (h ++ [Sum.inl (10 + ci, n.toNatClampNeg, (Sum.inr (Sum.inr fun _ => none) : jx_K))] : jx_H).length = h.length + 1 := by simp
      refine jx_hs C.2.2.2.2.2.2.2.1 hn hR.1 hR.2.1 (fun hHs => ?_)
      obtain ⟨hx, hb, hml, hts, hown, hKn, hFA, hsz, hfr, hlo, hin⟩ := C
      have c1 : h.length - n0 + 1 ≤ R.cells := by have : (h ++ [Sum.inl (10 + ci, n.toNatClampNeg, (Sum.inr (Sum.inr fun _ => none) : jx_K))] : jx_H).length - n0 ≤ R.cells := hc1; rw [hl] at this; omega
      have c2 : jx_sz h - z0 + n.toNatClampNeg ≤ R.slots := by have : jx_sz (h ++ [Sum.inl (10 + ci, n.toNatClampNeg, Sum.inr (Sum.inr fun _ => none))]) - z0 ≤ R.slots := hc2; rw [hs] at this; omega
      have e1 : (h ++ [Sum.inl (10 + ci, n.toNatClampNeg, (Sum.inr (Sum.inr fun _ => none) : jx_K))] : jx_H).length - n0 = h.length - n0 + 1 := by rw [hl]; omega
      have e2 : jx_sz (h ++ [Sum.inl (10 + ci, n.toNatClampNeg, Sum.inr (Sum.inr fun _ => none))]) - z0 = jx_sz h - z0 + n.toNatClampNeg := by rw [hs]; omega
      have hci : ci = 0 ∨ ci = 2 := by
        unfold jx_rs at hrs
        rcases Bool.or_eq_true_iff.mp hrs with q | q
        · left; have := Nat.eq_of_beq_eq_true q; omega
        · right; have := Nat.eq_of_beq_eq_true q; omega
      have hover : va_AO rr.1 s ∧ ∃ (kA : Class) (comp : ClassId), s.vm.classes[cA (10 + ci)]? = some kA ∧ kA.kind = .array comp (.object rr.1) ∧ s.vm.findClass rr.1 = some comp ∧ s.vm.findClass ("[" ++ (FieldType.object rr.1).toString) = some (cA (10 + ci)) := by
        rcases hci with rfl | rfl
        · cases hcl; exact ⟨hKn.2.2.1, (hKn.1.2 4 _ rfl).2⟩
        · cases hcl; exact ⟨hKn.2.2.2.1, (hKn.1.2 5 _ rfl).2⟩
      obtain ⟨hao, kA0, comp0, q1, q2, q3, q4⟩ := hover
      refine W.anew hx hb hown (hts _ hlk) (va_AO.use hao) rfl (jd_k hd rfl rfl) rfl hn1 (Nat.le_trans (Nat.mul_le_mul hn2 (Nat.le_refl 4)) (by decide)) c1 c2 fun cB kA comp f1 f2 f3 f4 => ?_
      have hcB : cB = cA (10 + ci) := Option.some.inj (f1.symm.trans q4)
      subst hcB
      generalize hH1 : H.push ({ cls := cA (10 + ci), slots := Array.replicate n.toNatClampNeg .null, vm := .none } : Cell) = H1
      have g2 : H1.size = SZ + h.length + 1 := by rw [← hH1, Array.size_push, hHs]
      have g1 : H1[SZ + h.length]? = some (arrV (cA (10 + ci)) n.toNatClampNeg (fun _ => .null)) := by rw [← hH1, ← hHs, Array.getElem?_push_size, ← arrV_new]
      have g3 : ∀ q : Nat, q < SZ + h.length → H1[q]? = H[q]? := fun q hq => by rw [← hH1, Array.getElem?_push, if_neg (by omega)]
      obtain ⟨p1, p2⟩ := jx_push (e := .inl (10 + ci, n.toNatClampNeg, .inr (.inr fun _ => none))) hHs hR.1 hR.2.1 g2 g3 (by show H1[SZ + h.length]? = some (vp_cell _ _); rw [vp_cell_q]; exact g1)
      have hf := W.cs e1.symm e2.symm (K H1 locs ls ⟨p1, p2, hR.2.2⟩)
      rw [hHs]
      exact hf
  · cases hi2
theorem ja_new {k : Nat} (hpool : ∀ q ∈ M.1, jx_okP jx_nm own q.1 q.2) (hi : jx_ins lv F M pc L st h (.new k) = some (.inr (.inl z))) : jx_Arm SZ fa cA D F lv nL own cc ini (.new k) pc L st h z := by
  obtain ⟨t, ci, b, zz, hq, hi1⟩ := ji_pt hi
  have hok := hpool _ (jx_as_mem hq)
  rcases ji_bif hi1 with ⟨ht, hi2⟩ | ⟨_, hi2⟩
  · obtain ⟨fs, hfs, hi3⟩ := ji_cf hi2
    obtain rfl := ji_to hi3
    cases Nat.eq_of_beq_eq_true ht
    obtain ⟨rr, hcl, hlk⟩ := hok
    obtain ⟨ty, fs', hw, hty, hnm, hcs, hlen, hso, hins, hini, hown'⟩ := jx_clOk _ _ hcl
    cases hfs.symm.trans hcs
    refine ⟨jx_le_app, fun n0 z0 p l e R s m args below meth c H locs ls Q C hd hR hn hz hc1 hc2 K => ?_⟩
    generalize hnw : (fs.map fun q => bif Nat.beq q.1 9 then Value.null else Value.int 0) = nw at hc1 hc2 K
    have hnl : nw.length = rr.2.2 := by rw [← hnw, List.length_map, hlen]
    have hs : jx_sz (h ++ [.inr (ci, nw)]) = jx_sz h + rr.2.2 := by rw [jx_sz_app, ← hnl]; rfl
    have hl : (h ++ [(Sum.inr (ci, nw) : jx_C)]).length = h.length + 1 := by simp
    refine jx_hs C.2.2.2.2.2.2.2.1 hn hR.1 hR.2.1 (fun hHs => ?_)
    obtain ⟨hx, hb, hml, hts, hown, hKn, hFA, hsz, hfr, hlo, hin⟩ := C
    have c1 : h.length - n0 + 1 ≤ R.cells := by have : (h ++ [(Sum.inr (ci, nw) : jx_C)]).length - n0 ≤ R.cells := hc1; rw [hl] at this; omega
    have c2 : jx_sz h - z0 + rr.2.2 ≤ R.slots := by have : jx_sz (h ++ [Sum.inr (ci, nw)]) - z0 ≤ R.slots := hc2; rw [hs] at this; omega
    have e1 : (h ++ [(Sum.inr (ci, nw) : jx_C)]).length - n0 = h.length - n0 + 1 := by rw [hl]; omega
    have e2 : jx_sz (h ++ [Sum.inr (ci, nw)]) - z0 = jx_sz h - z0 + rr.2.2 := by rw [hs]; omega
    have hKc := hKn.1.1 ci _ hcl
    refine W.newcK hx hb hown (hts _ hlk) (hts _ hins) (hts _ hini) rfl (jd_k hd rfl rfl) c1 c2 hKc.2.1 hHs fun H1 kC g0 g1 g2 g3 => ?_
    obtain ⟨p1, p2⟩ := jx_push (e := .inr (ci, nw)) hHs hR.1 hR.2.1 g2 g3 ⟨_, hcl, (u_born ty hts hw hKc g0 g1 hty).to (fun j hj => by
      have hj' : j < fs.length := by rw [hlen]; exact hj
      have hd := js_dflt (hso j _ (List.getElem?_eq_getElem hj')).2
      show defaultValue (ty j) = vp_V (nw.map (jx_cv SZ fa)) j
      unfold vp_V
      rw [hd, ← hnw, List.getD_eq_getElem?_getD, List.getElem?_map, List.getElem?_map, List.getElem?_eq_getElem hj']
      show (bif Nat.beq fs[j].1 9 then Value.null else Value.int 0) = jx_cv SZ fa (bif Nat.beq fs[j].1 9 then Value.null else Value.int 0)
      cases Nat.beq fs[j].1 9 <;> rfl)⟩
    exact W.cs e1.symm e2.symm (K H1 locs ls ⟨p1, p2, hR.2.2⟩)
  · cases hi2
theorem ja_invokespecial {k : Nat} (hpool : ∀ q ∈ M.1, jx_okP jx_nm own q.1 q.2) (hi : jx_ins lv F M pc L st h (.invokespecial k) = some (.inr (.inl z))) : jx_Arm SZ fa cA D F lv nL own cc ini (.invokespecial k) pc L st h z := by
  obtain ⟨t, c0, b, zz, hq, hi1⟩ := ji_pt hi
  have hok := hpool _ (jx_as_mem hq)
  · rcases ji_bif hi1 with ⟨hb0, hi3⟩ | ⟨_, hi3⟩
    · obtain ⟨ht, hlv⟩ := Bool.and_eq_true_iff.mp hb0
      have hlv1 : 1 ≤ lv := by
        cases lv with
        | zero => cases hlv
        | succ n => omega
      cases Nat.eq_of_beq_eq_true ht
      rcases ji_a1 hi3 with ⟨a, r, rfl, hi4⟩ | ⟨a, r, rfl, hi4⟩
      · rcases ji_bif hi4 with ⟨hb1, hi5⟩ | ⟨_, hi5⟩
        · obtain rfl := ji_to hi5
          refine jx_rest rfl fun z0 p l e R s m args below meth c H locs ls Q n0 C hd hR K => ?_
          obtain ⟨hx, hb, hml, hts, hown, hKn, hFA, hsz, hfr, hlo, hin⟩ := C
          have h8 := Nat.le_of_ble_eq_true hb1
          refine W.objInit hx hb hown (hts _ hok) (hts _ jg_oi1) (hts _ jg_oi2) rfl (by rw [hml]; exact hR.2.2.1) rfl (jd_k hd rfl rfl) (by omega) ?_ (K ls hR.2.2)
          have := jx_catM (SZ := SZ) (fa := fa) r
          show 2 * 0 + _ + 12 ≤ _
          omega
        · cases hi5
      · cases hi4
    · cases hi3
theorem ja_invokestatic {k : Nat} (hpool : ∀ q ∈ M.1, jx_okP jx_nm own q.1 q.2) (hi : jx_ins lv F M pc L st h (.invokestatic k) = some (.inr (.inl z))) : jx_Arm SZ fa cA D F lv nL own cc ini (.invokestatic k) pc L st h z := by
  obtain ⟨t, c0, b, zz, hq, hi1⟩ := ji_pt hi
  have hok := hpool _ (jx_as_mem hq)
  · rcases ji_bif hi1 with ⟨hb0, hi3⟩ | ⟨_, hi3⟩
    · obtain ⟨ht, hlv⟩ := Bool.and_eq_true_iff.mp hb0
      have hlv1 : 1 ≤ lv := by
        cases lv with
        | zero => cases hlv
        | succ n => omega
      cases Nat.eq_of_beq_eq_true ht
      obtain ⟨n, dp, sp, b, a, r, rfl, h8, hcp⟩ := ji_cp hi3
      rcases hcp with ⟨m0, m1, f, g, ha, hb', ⟨q1, q2, q3, q4, q5⟩, hi4⟩ | ⟨m0, m1, f, g, ha, hb', ⟨q1, q2, q3, q4, q5⟩, hi4⟩
      · obtain rfl := ji_to hi4
        refine ⟨jx_le_set hb' rfl, fun n0 z0 p l e R s m args below meth c H locs ls Q C hd hR hn hz hc1 hc2 K => ?_⟩
        have hze : jx_sz (h.set b (.inl (0, m1, .inl (va_cpy f g sp.toNatClampNeg dp.toNatClampNeg n.toNatClampNeg)))) = jx_sz h := jx_sz_set hb' rfl
        obtain ⟨hx, hb, hml, hts, hown, hKn, hFA, hsz, hfr, hlo, hin⟩ := C
        refine va_copyi hx hb (by rw [hml]; exact hR.2.2.1.symm) hown (hts _ hok) (hts _ jg_ac1) (hts _ jg_ac2) (hts _ jg_ac3) hKn.1 hR.1 jw_D hR.2.1 a b 0 0 (jw_get ha) (jw_get hb') rfl rfl rfl q1 q2 q3 q4 q5 (fun _ _ => rfl) (by omega) ?_ (jd_k hd rfl rfl) (fun H1 locs1 g1 _ g3 => W.cs (by simp) (by rw [hze]) (K H1 locs1 ls ⟨(jw_set (SZ := SZ) (fa := fa) (cA := cA) b (.inl (0, m1, .inl (va_cpy f g sp.toNatClampNeg dp.toNatClampNeg n.toNatClampNeg)))) ▸ g1, g3, hR.2.2⟩))
        have := jx_catM (SZ := SZ) (fa := fa) r
        have hnw : nativeFrameWords "java/lang/System" "arraycopy" 5 ≤ 19 := by decide +kernel
        omega
      · obtain rfl := ji_to hi4
        refine ⟨jx_le_set hb' rfl, fun n0 z0 p l e R s m args below meth c H locs ls Q C hd hR hn hz hc1 hc2 K => ?_⟩
        have hze : jx_sz (h.set b (.inl (3, m1, .inr (.inl (va_cpy f g sp.toNatClampNeg dp.toNatClampNeg n.toNatClampNeg))))) = jx_sz h := jx_sz_set hb' rfl
        obtain ⟨hx, hb, hml, hts, hown, hKn, hFA, hsz, hfr, hlo, hin⟩ := C
        refine va_copyl hx hb (by rw [hml]; exact hR.2.2.1.symm) hown (hts _ hok) (hts _ jg_ac1) (hts _ jg_ac2) (hts _ jg_ac3) hKn.1 hR.1 jw_D hR.2.1 a b 3 3 (jw_get ha) (jw_get hb') rfl rfl rfl q1 q2 q3 q4 q5 (fun _ _ => rfl) (by omega) ?_ (jd_k hd rfl rfl) (fun H1 locs1 g1 _ g3 => W.cs (by simp) (by rw [hze]) (K H1 locs1 ls ⟨(jw_set (SZ := SZ) (fa := fa) (cA := cA) b (.inl (3, m1, .inr (.inl (va_cpy f g sp.toNatClampNeg dp.toNatClampNeg n.toNatClampNeg))))) ▸ g1, g3, hR.2.2⟩))
        have := jx_catM (SZ := SZ) (fa := fa) r
        have hnw : nativeFrameWords "java/lang/System" "arraycopy" 5 ≤ 19 := by decide +kernel
        omega
    · rcases ji_bif hi3 with ⟨hb0, hi4⟩ | ⟨_, hi4⟩
      · obtain ⟨ht, hlv⟩ := Bool.and_eq_true_iff.mp hb0
        have hlv1 : 1 ≤ lv := by
          cases lv with
          | zero => cases hlv
          | succ n => omega
        cases Nat.eq_of_beq_eq_true ht
        obtain ⟨x, y, r, rfl, hi5⟩ := ji_i2 hi4
        rcases ji_bif hi5 with ⟨hb1, hi6⟩ | ⟨_, hi6⟩
        · obtain rfl := ji_to hi6
          refine ⟨jx_le_rf, fun n0 z0 p l e R s m args below meth c H locs ls Q C hd hR hn hz hc1 hc2 K => ?_⟩
          obtain ⟨hx, hb, hml, hts, hown, hKn, hFA, hsz, hfr, hlo, hin⟩ := C
          have h8 := Nat.le_of_ble_eq_true hb1
          have := jx_catM (SZ := SZ) (fa := fa) r
          exact va_mmax hx hb (by rw [hml]; exact hR.2.2.1.symm) hown (hts _ hok) (hts _ jg_max1) (hts _ jg_math) (hts _ jg_max2) (by omega) (by omega) hc1 hc2 (jd_k hd rfl rfl) (K H locs ls hR)
        · cases hi6
      · rcases ji_bif hi4 with ⟨hb0, hi5⟩ | ⟨_, hi5⟩
        · obtain ⟨ht, hlv⟩ := Bool.and_eq_true_iff.mp hb0
          have hlv1 : 1 ≤ lv := by
            cases lv with
            | zero => cases hlv
            | succ n => omega
          cases Nat.eq_of_beq_eq_true ht
          obtain ⟨x, y, r, rfl, hi6⟩ := ji_i2 hi5
          rcases ji_bif hi6 with ⟨hb1, hi7⟩ | ⟨_, hi7⟩
          · obtain rfl := ji_to hi7
            refine ⟨jx_le_rf, fun n0 z0 p l e R s m args below meth c H locs ls Q C hd hR hn hz hc1 hc2 K => ?_⟩
            obtain ⟨hx, hb, hml, hts, hown, hKn, hFA, hsz, hfr, hlo, hin⟩ := C
            have h8 := Nat.le_of_ble_eq_true hb1
            have := jx_catM (SZ := SZ) (fa := fa) r
            exact va_mmin hx hb (by rw [hml]; exact hR.2.2.1.symm) hown (hts _ hok) (hts _ jg_min1) (hts _ jg_math) (hts _ jg_min2) (by omega) (by omega) hc1 hc2 (jd_k hd rfl rfl) (K H locs ls hR)
          · cases hi7
        · cases hi5
end JArms4
