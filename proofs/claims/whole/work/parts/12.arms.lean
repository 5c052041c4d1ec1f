section JArms2
variable {SZ : Nat} {fa : Nat → Nat} {cA : Nat → ClassId} {D : va_G} {F : jx_F} {lv nL : Nat} {own : String} {cc : ByteArray} {M : jx_M} {pc : Nat} {L st : List Value} {h : jx_H} {z : jx_S}
theorem ja_ldc {ini : Bool} {k : Nat} (hpool : ∀ q ∈ M.1, jx_okP jx_nm own q.1 q.2) (hi : jx_ins lv F M pc L st h (.ldc k) = some (.inr (.inl z))) : jx_Arm SZ fa cA D F lv nL own cc ini (.ldc k) pc L st h z := by
  obtain ⟨t, a, b, zz, hq, hi1⟩ := ji_pt hi
  have hok := hpool _ (jx_as_mem hq)
  rcases ji_bif hi1 with ⟨ht, hi2⟩ | ⟨_, hi2⟩
  · obtain rfl := ji_to hi2
    cases Nat.eq_of_beq_eq_true ht
    exact jx_rest rfl fun z0 p l e R s m args below meth c H locs ls Q n0 C hd hR K => lv_ldc C.1 C.2.1 C.2.2.2.2.1 (C.2.2.2.1 _ hok) (jd_k hd rfl rfl) (K ls hR.2.2)
  · rcases ji_bif hi2 with ⟨ht, hi3⟩ | ⟨_, hi3⟩
    · obtain rfl := ji_to hi3
      cases Nat.eq_of_beq_eq_true ht
      obtain ⟨tx, hm⟩ := hok
      exact jx_rest rfl fun z0 p l e R s m args below meth c H locs ls Q n0 C hd hR K => va_ldcS C.1 C.2.1 C.2.2.2.2.1 (C.2.2.2.2.2.1.2.2.2.2 _ hm) (jd_k hd rfl rfl) (K ls hR.2.2)
    · cases hi3
theorem ja_ldc_w {ini : Bool} {k : Nat} (hpool : ∀ q ∈ M.1, jx_okP jx_nm own q.1 q.2) (hi : jx_ins lv F M pc L st h (.ldc_w k) = some (.inr (.inl z))) : jx_Arm SZ fa cA D F lv nL own cc ini (.ldc_w k) pc L st h z := by
  obtain ⟨t, a, b, zz, hq, hi1⟩ := ji_pt hi
  have hok := hpool _ (jx_as_mem hq)
  rcases ji_bif hi1 with ⟨ht, hi2⟩ | ⟨_, hi2⟩
  · obtain rfl := ji_to hi2
    cases Nat.eq_of_beq_eq_true ht
    exact jx_rest rfl fun z0 p l e R s m args below meth c H locs ls Q n0 C hd hR K => lv_ldcw C.1 C.2.1 C.2.2.2.2.1 (C.2.2.2.1 _ hok) (jd_k hd rfl rfl) (K ls hR.2.2)
  · cases hi2
theorem ja_ldc2_w {ini : Bool} {k : Nat} (hpool : ∀ q ∈ M.1, jx_okP jx_nm own q.1 q.2) (hi : jx_ins lv F M pc L st h (.ldc2_w k) = some (.inr (.inl z))) : jx_Arm SZ fa cA D F lv nL own cc ini (.ldc2_w k) pc L st h z := by
  obtain ⟨t, a, b, zz, hq, hi1⟩ := ji_pt hi
  have hok := hpool _ (jx_as_mem hq)
  rcases ji_bif hi1 with ⟨ht, hi2⟩ | ⟨_, hi2⟩
  · obtain rfl := ji_to hi2
    cases Nat.eq_of_beq_eq_true ht
    exact jx_rest rfl fun z0 p l e R s m args below meth c H locs ls Q n0 C hd hR K => lv_ldc2 C.1 C.2.1 C.2.2.2.2.1 (C.2.2.2.1 _ hok) (jd_k hd rfl rfl) (K ls hR.2.2)
  · cases hi2
theorem ja_getstatic {ini : Bool} {k : Nat} (hpool : ∀ q ∈ M.1, jx_okP jx_nm own q.1 q.2) (hi : jx_ins lv F M pc L st h (.getstatic k) = some (.inr (.inl z))) : jx_Arm SZ fa cA D F lv nL own cc ini (.getstatic k) pc L st h z := by
  obtain ⟨t, a, b, zz, hq, hi1⟩ := ji_pt hi
  have hok := hpool _ (jx_as_mem hq)
  rcases ji_bif hi1 with ⟨ht, hi2⟩ | ⟨_, hi2⟩
  · obtain ⟨v, hv, hi3⟩ := ji_sv hi2
    obtain rfl := ji_to hi3
    cases Nat.eq_of_beq_eq_true ht
    obtain ⟨q, hst, hl⟩ := hok
    exact jx_rest rfl fun z0 p l e R s m args below meth c H locs ls Q n0 C hd hR K => va_gets C.1 C.2.1 (C.2.2.2.2.2.2.1.2 a v q hv hst) hR.2.1 C.2.2.2.2.1 (C.2.2.2.1 _ hl) (fun _ w => w) (jd_k hd rfl rfl) (K ls hR.2.2)
  · cases hi2
theorem ja_getfield {ini : Bool} {k : Nat} (hpool : ∀ q ∈ M.1, jx_okP jx_nm own q.1 q.2) (hi : jx_ins lv F M pc L st h (.getfield k) = some (.inr (.inl z))) : jx_Arm SZ fa cA D F lv nL own cc ini (.getfield k) pc L st h z := by
  obtain ⟨t, ci, j, zz, hq, hi1⟩ := ji_pt hi
  have hok := hpool _ (jx_as_mem hq)
  rcases ji_bif hi1 with ⟨ht, hi2⟩ | ⟨_, hi2⟩
  · rcases ji_a1 hi2 with ⟨a, r, rfl, hi3⟩ | ⟨a, r, rfl, hi3⟩
    · obtain ⟨fs, v, hc, hv, hi4⟩ := ji_gf hi3
      obtain rfl := ji_to hi4
      refine jx_rest rfl fun z0 p l e R s m args below meth c H locs ls Q n0 C hd hR K => ?_
      obtain ⟨hx, hb, hml, hts, hown, hKn, hFA, hsz, hfr, hlo, hin⟩ := C
      rcases Bool.or_eq_true_iff.mp ht with ht | ht
      · cases Nat.eq_of_beq_eq_true ht
        obtain ⟨rr, hcl, hj, hl⟩ := hok
        obtain ⟨ty, fs', hw, hty, hnm, hcs, hlen, hso, hins, hini, hown'⟩ := jx_clOk _ _ hcl
        exact va_get (C := rr.1) (T := rr.2.1) (N := rr.2.2) hx hb hts hw hown hKn.1 hR.1 a (jw_get hc) hcl j hj (hts _ hl) (fun _ q => q) (v := jx_cv SZ fa v) (by rw [List.getElem?_map, hv]; rfl) (jd_k hd rfl rfl) (K ls hR.2.2)
      · cases Nat.eq_of_beq_eq_true ht
        obtain ⟨rr, host, hcl, hj, hl⟩ := hok
        obtain ⟨ty, fs', hw, hty, hnm, hcs, hlen, hso, hins, hini, hown'⟩ := jx_clOk _ _ hcl
        exact va_getN (C := rr.1) (T := rr.2.1) (N := rr.2.2) hx hb hts hw hown hKn.1 hR.1 a (jw_get hc) hcl j hj (va_Nw.use rfl (hKn.2.1 _ hl)) (fun _ q => q) (v := jx_cv SZ fa v) (by rw [List.getElem?_map, hv]; rfl) (jd_k hd rfl rfl) (K ls hR.2.2)
    · cases hi3
  · rcases ji_bif hi2 with ⟨ht, hi3⟩ | ⟨_, hi3⟩
    · rcases ji_a1 hi3 with ⟨a, r, rfl, hi4⟩ | ⟨a, r, rfl, hi4⟩
      · cases hi4
      · obtain ⟨fs, v, hc, hv, hi5⟩ := ji_gf hi4
        obtain rfl := ji_to hi5
        cases Nat.eq_of_beq_eq_true ht
        refine jx_rest rfl fun z0 p l e R s m args below meth c H locs ls Q n0 C hd hR K => ?_
        obtain ⟨hx, hb, hml, hts, hown, hKn, hFA, hsz, hfr, hlo, hin⟩ := C
        have hf := hFA.1 a _ hc
        obtain ⟨rfl, hok⟩ := hok
        match fs, hv, hf with
        | [v0, w0], hv, hf =>
          obtain ⟨-, f1, f2, f3⟩ := hf
          rcases hok with ⟨rfl, hl⟩ | ⟨rfl, hl⟩
          · cases hv
            exact vk_getf hx hb f2 hR.2.1 hown (hts _ hl) (fun _ q => q) (jd_k hd rfl rfl) (K ls hR.2.2)
          · cases hv
            exact vk_getf hx hb f3 hR.2.1 hown (hts _ hl) (fun _ q => q) (jd_k hd rfl rfl) (K ls hR.2.2)
        | [], _, hf => exact hf.elim
        | [_], _, hf => exact hf.elim
        | _ :: _ :: _ :: _, _, hf => exact hf.elim
    · cases hi3
theorem jx_ceS {ci j : Nat} {fs : List Value} {v : Value} : jx_ce SZ fa cA (.inr (ci, fs.set j v)) = .inr (ci, (fs.map (jx_cv SZ fa)).set j (jx_cv SZ fa v)) := by
  simp [jx_ce, List.map_set]
theorem ja_putfield {k : Nat} (hpool : ∀ q ∈ M.1, jx_okP jx_nm own q.1 q.2) (hcn : jx_cno M.2.1 own) (hi : jx_ins lv F M pc L st h (.putfield k) = some (.inr (.inl z))) : jx_Arm SZ fa cA D F lv nL own cc M.2.2.2.2.2.1 (.putfield k) pc L st h z := by
  obtain ⟨t, ci, j, zz, hq, hi1⟩ := ji_pt hi
  have hok := hpool _ (jx_as_mem hq)
  obtain ⟨ft, fin, hfd, hi2⟩ := ji_fd hi1
  obtain ⟨v, a, r, rfl, hi3⟩ := ji_va hi2
  rcases ji_bif hi3 with ⟨hb0, hi4⟩ | ⟨_, hi4⟩
  · obtain ⟨fs, hc, hj, hi5⟩ := ji_pf hi4
    obtain rfl := ji_to hi5
    obtain ⟨hfit, hb1⟩ := Bool.and_eq_true_iff.mp hb0
    have hze : jx_sz (h.set a (.inr (ci, fs.set j v))) = jx_sz h := jx_sz_set hc (by simp [jx_csz])
    refine ⟨jx_le_set hc (by simp [jx_csz]), fun n0 z0 p l e R s m args below meth c H locs ls Q C hd hR hn hz hc1 hc2 K => ?_⟩
    obtain ⟨hx, hb, hml, hts, hown, hKn, hFA, hsz, hfr, hlo, hin⟩ := C
    have K1 : ∀ (H1 : Heap) (locs1 : List Loc), va_P D jx_cl ((jx_ws SZ fa cA h).set a (SZ + a, .inr (ci, (fs.map (jx_cv SZ fa)).set j (jx_cv SZ fa v)))) H1 → va_D (jx_A SZ) ((jx_ws SZ fa cA h).set a (SZ + a, .inr (ci, (fs.map (jx_cv SZ fa)).set j (jx_cv SZ fa v)))) → va_S (jx_A SZ) s.heap H1 locs1 → W p l e R s m args below meth c H1 locs1 (h.length - n0) (jx_sz h - z0) Q (F0 m (pc + 3) ls (r.map (jx_cv SZ fa))) := by
      intro H1 locs1 g1 g2 g3
      rw [← jx_ceS, jw_set] at g1
      exact W.cs (by simp) (by rw [hze]) (K H1 locs1 ls ⟨g1, g3, hR.2.2⟩)
    have hjj : j < (fs.map (jx_cv SZ fa)).length := by rw [List.length_map]; exact hj
    rcases Bool.or_eq_true_iff.mp hb1 with hb2 | hb2
    · obtain ⟨ht, hf⟩ := Bool.and_eq_true_iff.mp hb2
      cases Nat.eq_of_beq_eq_true ht
      obtain ⟨rr, hcl, hjN, hl⟩ := hok
      obtain ⟨ty, fs', hw, hty, hnm, hcs, hlen, hso, hins, hini, hown'⟩ := jx_clOk _ _ hcl
      have hfd' : fs'[j]? = some (ft, fin) := by
        rw [List.getD_eq_getElem?_getD, hcs] at hfd; exact hfd
      obtain ⟨q1, q2⟩ := hso j _ hfd'
      obtain ⟨w1, w2⟩ := js_fit (SZ := SZ) (fa := fa) q2 hfit
      cases fin with
      | false => exact va_put (C := rr.1) (T := rr.2.1) (N := rr.2.2) hx hb hts hw ty hty hnm hown hKn.1 hR.1 jw_D hR.2.1 a (jw_get hc) hcl j hjN (hts _ hl) (fun _ q => q) q1.symm (hty j hjN) w1 w2 hjj (jd_k hd rfl rfl) K1
      | true =>
        have hf' : (M.2.2.2.2.2.1 && Nat.beq M.2.1 ci) = true := hf
        obtain ⟨f1, f2⟩ := Bool.and_eq_true_iff.mp hf'
        have hci : M.2.1 = ci := Nat.eq_of_beq_eq_true f2
        have hoo : (rr.2.1 j).1 = own := (hown' j hjN).trans (hcn rr (by rw [hci]; exact hcl))
        exact va_putF (C := rr.1) (T := rr.2.1) (N := rr.2.2) hx hb hts hw ty hty hnm hown hKn.1 hR.1 jw_D hR.2.1 a (jw_get hc) hcl j hjN (hts _ hl) (fun _ q => q) q1.symm (hin f1) hoo (hty j hjN) w1 w2 hjj (jd_k hd rfl rfl) K1
    · obtain ⟨ht, hf⟩ := Bool.and_eq_true_iff.mp hb2
      cases Nat.eq_of_beq_eq_true ht
      obtain ⟨rr, host, hcl, hjN, hl⟩ := hok
      obtain ⟨ty, fs', hw, hty, hnm, hcs, hlen, hso, hins, hini, hown'⟩ := jx_clOk _ _ hcl
      have hfd' : fs'[j]? = some (ft, fin) := by
        rw [List.getD_eq_getElem?_getD, hcs] at hfd; exact hfd
      obtain ⟨q1, q2⟩ := hso j _ hfd'
      obtain ⟨w1, w2⟩ := js_fit (SZ := SZ) (fa := fa) q2 hfit
      cases fin with
      | false => exact va_putN (C := rr.1) (T := rr.2.1) (N := rr.2.2) hx hb hts hw ty hty hnm hown hKn.1 hR.1 jw_D hR.2.1 a (jw_get hc) hcl j hjN (va_Nw.use rfl (hKn.2.1 _ hl)) (fun _ q => q) q1.symm (hty j hjN) w1 w2 hjj (jd_k hd rfl rfl) K1
      | true => cases hf
  · cases hi4
end JArms2
