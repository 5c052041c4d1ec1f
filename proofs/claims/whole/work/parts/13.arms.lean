section JArms3
variable {SZ : Nat} {fa : Nat → Nat} {cA : Nat → ClassId} {D : va_G} {F : jx_F} {lv nL : Nat} {own : String} {cc : ByteArray} {ini : Bool} {M : jx_M} {pc : Nat} {L st : List Value} {h : jx_H} {z : jx_S}
theorem ja_iaload (hi : jx_ins lv F M pc L st h (.iaload) = some (.inr (.inl z))) : jx_Arm SZ fa cA D F lv nL own cc ini (.iaload) pc L st h z := by
  rcases ji_ia hi with ⟨i, a, r, rfl, hi1⟩ | ⟨i, a, r, rfl, hi1⟩
  · obtain ⟨n, f, hc, hin, hi2⟩ := ji_gi hi1
    obtain rfl := ji_to hi2
    exact jx_rest rfl fun z0 p l e R s m args below meth c H locs ls Q n0 C hd hR K => va_iald C.1 C.2.1 C.2.2.2.2.2.1.1 hR.1 a 0 (jw_get hc) rfl hin (jd_k hd rfl rfl) (K ls hR.2.2)
  · obtain ⟨n, f, hc, hin, hi2⟩ := ji_gi hi1
    obtain rfl := ji_to hi2
    refine jx_rest rfl fun z0 p l e R s m args below meth c H locs ls Q n0 C hd hR K => ?_
    rcases C.2.2.2.2.2.2.1.1 a _ hc with ⟨-, hT⟩ | ⟨q, -⟩
    · exact va_ti C.1 C.2.1 hT hR.2.1 hin rfl (jd_k hd rfl rfl) (K ls hR.2.2)
    · cases q
theorem ja_caload (hi : jx_ins lv F M pc L st h (.caload) = some (.inr (.inl z))) : jx_Arm SZ fa cA D F lv nL own cc ini (.caload) pc L st h z := by
  rcases ji_ia hi with ⟨i, a, r, rfl, hi1⟩ | ⟨i, a, r, rfl, hi1⟩
  · obtain ⟨n, f, hc, hin, hi2⟩ := ji_gi hi1
    obtain rfl := ji_to hi2
    exact jx_rest rfl fun z0 p l e R s m args below meth c H locs ls Q n0 C hd hR K => va_cald C.1 C.2.1 C.2.2.2.2.2.1.1 hR.1 a 1 (jw_get hc) rfl hin (jd_k hd rfl rfl) (K ls hR.2.2)
  · cases hi1
theorem ja_baload (hi : jx_ins lv F M pc L st h (.baload) = some (.inr (.inl z))) : jx_Arm SZ fa cA D F lv nL own cc ini (.baload) pc L st h z := by
  rcases ji_ia hi with ⟨i, a, r, rfl, hi1⟩ | ⟨i, a, r, rfl, hi1⟩
  · obtain ⟨n, f, hc, hin, hi2⟩ := ji_gi hi1
    obtain rfl := ji_to hi2
    exact jx_rest rfl fun z0 p l e R s m args below meth c H locs ls Q n0 C hd hR K => va_zald C.1 C.2.1 C.2.2.2.2.2.1.1 hR.1 a 2 (jw_get hc) rfl hin (jd_k hd rfl rfl) (K ls hR.2.2)
  · obtain ⟨n, f, hc, hin, hi2⟩ := ji_gi hi1
    obtain rfl := ji_to hi2
    refine jx_rest rfl fun z0 p l e R s m args below meth c H locs ls Q n0 C hd hR K => ?_
    rcases C.2.2.2.2.2.2.1.1 a _ hc with ⟨q, -⟩ | ⟨-, hT⟩
    · cases q
    · exact va_tb C.1 C.2.1 hT hR.2.1 hin rfl (jd_k hd rfl rfl) (K ls hR.2.2)
theorem ja_laload (hi : jx_ins lv F M pc L st h (.laload) = some (.inr (.inl z))) : jx_Arm SZ fa cA D F lv nL own cc ini (.laload) pc L st h z := by
  rcases ji_ia hi with ⟨i, a, r, rfl, hi1⟩ | ⟨i, a, r, rfl, hi1⟩
  · obtain ⟨n, f, hc, hin, hi2⟩ := ji_gl hi1
    obtain rfl := ji_to hi2
    exact jx_rest rfl fun z0 p l e R s m args below meth c H locs ls Q n0 C hd hR K => va_lald C.1 C.2.1 C.2.2.2.2.2.1.1 hR.1 a 3 (jw_get hc) rfl hin (jd_k hd rfl rfl) (K ls hR.2.2)
  · cases hi1
theorem ja_aaload (hi : jx_ins lv F M pc L st h (.aaload) = some (.inr (.inl z))) : jx_Arm SZ fa cA D F lv nL own cc ini (.aaload) pc L st h z := by
  rcases ji_ia hi with ⟨i, a, r, rfl, hi1⟩ | ⟨i, a, r, rfl, hi1⟩
  · obtain ⟨t, n, f, x, hc, hrs, hin, hf, hi2⟩ := ji_ga hi1
    obtain rfl := ji_to hi2
    refine jx_rest rfl fun z0 p l e R s m args below meth c H locs ls Q n0 C hd hR K => ?_
    have hK2 : W p l e R s m args below meth c H locs (h.length - n0) (jx_sz h - z0) Q (F0 m (pc + 1) ls (va_rf ((f i.toNatClampNeg).map fun x => SZ + x) :: r.map (jx_cv SZ fa))) := by
      rw [hf]; exact K ls hR.2.2
    unfold jx_rs at hrs
    rcases Bool.or_eq_true_iff.mp hrs with q | q
    · cases Nat.eq_of_beq_eq_true q
      exact va_aldq (C := jc_R0) C.1 C.2.1 C.2.2.2.2.2.1.1 hR.1 a 4 (jw_get hc) rfl hin (jd_k hd rfl rfl) hK2
    · cases Nat.eq_of_beq_eq_true q
      exact va_aldq (C := jc_R2) C.1 C.2.1 C.2.2.2.2.2.1.1 hR.1 a 5 (jw_get hc) rfl hin (jd_k hd rfl rfl) hK2
  · cases hi1
theorem ja_iastore (hi : jx_ins lv F M pc L st h (.iastore) = some (.inr (.inl z))) : jx_Arm SZ fa cA D F lv nL own cc ini (.iastore) pc L st h z := by
  obtain ⟨v, i, a, r, rfl, hi1⟩ := ji_via hi
  obtain ⟨x, rfl, hi2⟩ := ji_asI hi1
  obtain ⟨n, f, hc, hin, hi3⟩ := ji_pi hi2
  obtain rfl := ji_to hi3
  refine ⟨jx_le_set hc rfl, fun n0 z0 p l e R s m args below meth c H locs ls Q C hd hR hn hz hc1 hc2 K => ?_⟩
  have hze : jx_sz (h.set a (.inl (0, n, .inl (upd f i.toNatClampNeg x)))) = jx_sz h := jx_sz_set hc rfl
  exact va_iast C.1 C.2.1 C.2.2.2.2.2.1.1 hR.1 jw_D hR.2.1 a 0 (jw_get hc) rfl hin (jd_k hd rfl rfl) (fun H1 locs1 g1 _ g3 => W.cs (by simp) (by rw [hze]) (K H1 locs1 ls ⟨(jw_set (SZ := SZ) (fa := fa) (cA := cA) a (.inl (0, n, .inl (upd f i.toNatClampNeg x)))) ▸ g1, g3, hR.2.2⟩))
theorem ja_castore (hi : jx_ins lv F M pc L st h (.castore) = some (.inr (.inl z))) : jx_Arm SZ fa cA D F lv nL own cc ini (.castore) pc L st h z := by
  obtain ⟨v, i, a, r, rfl, hi1⟩ := ji_via hi
  obtain ⟨x, rfl, hi2⟩ := ji_asI hi1
  obtain ⟨n, f, hc, hin, hi3⟩ := ji_pi hi2
  obtain rfl := ji_to hi3
  refine ⟨jx_le_set hc rfl, fun n0 z0 p l e R s m args below meth c H locs ls Q C hd hR hn hz hc1 hc2 K => ?_⟩
  have hze : jx_sz (h.set a (.inl (1, n, .inl (upd f i.toNatClampNeg (vp_nar .char x))))) = jx_sz h := jx_sz_set hc rfl
  exact va_cast C.1 C.2.1 C.2.2.2.2.2.1.1 hR.1 jw_D hR.2.1 a 1 (jw_get hc) rfl hin (jd_k hd rfl rfl) (fun H1 locs1 g1 _ g3 => W.cs (by simp) (by rw [hze]) (K H1 locs1 ls ⟨(jw_set (SZ := SZ) (fa := fa) (cA := cA) a (.inl (1, n, .inl (upd f i.toNatClampNeg (vp_nar .char x))))) ▸ g1, g3, hR.2.2⟩))
theorem ja_bastore (hi : jx_ins lv F M pc L st h (.bastore) = some (.inr (.inl z))) : jx_Arm SZ fa cA D F lv nL own cc ini (.bastore) pc L st h z := by
  obtain ⟨v, i, a, r, rfl, hi1⟩ := ji_via hi
  obtain ⟨x, rfl, hi2⟩ := ji_asI hi1
  obtain ⟨n, f, hc, hin, hi3⟩ := ji_pi hi2
  obtain rfl := ji_to hi3
  refine ⟨jx_le_set hc rfl, fun n0 z0 p l e R s m args below meth c H locs ls Q C hd hR hn hz hc1 hc2 K => ?_⟩
  have hze : jx_sz (h.set a (.inl (2, n, .inl (upd f i.toNatClampNeg (vp_nar .boolean x))))) = jx_sz h := jx_sz_set hc rfl
  exact va_zast C.1 C.2.1 C.2.2.2.2.2.1.1 hR.1 jw_D hR.2.1 a 2 (jw_get hc) rfl hin (jd_k hd rfl rfl) (fun H1 locs1 g1 _ g3 => W.cs (by simp) (by rw [hze]) (K H1 locs1 ls ⟨(jw_set (SZ := SZ) (fa := fa) (cA := cA) a (.inl (2, n, .inl (upd f i.toNatClampNeg (vp_nar .boolean x))))) ▸ g1, g3, hR.2.2⟩))
theorem ja_lastore (hi : jx_ins lv F M pc L st h (.lastore) = some (.inr (.inl z))) : jx_Arm SZ fa cA D F lv nL own cc ini (.lastore) pc L st h z := by
  obtain ⟨v, i, a, r, rfl, hi1⟩ := ji_via hi
  obtain ⟨x, rfl, hi2⟩ := ji_asL hi1
  obtain ⟨n, f, hc, hin, hi3⟩ := ji_pl hi2
  obtain rfl := ji_to hi3
  refine ⟨jx_le_set hc rfl, fun n0 z0 p l e R s m args below meth c H locs ls Q C hd hR hn hz hc1 hc2 K => ?_⟩
  have hze : jx_sz (h.set a (.inl (3, n, .inr (.inl (vp_updL f i.toNatClampNeg x))))) = jx_sz h := jx_sz_set hc rfl
  exact va_last C.1 C.2.1 C.2.2.2.2.2.1.1 hR.1 jw_D hR.2.1 a 3 (jw_get hc) rfl hin (jd_k hd rfl rfl) (fun H1 locs1 g1 _ g3 => W.cs (by simp) (by rw [hze]) (K H1 locs1 ls ⟨(jw_set (SZ := SZ) (fa := fa) (cA := cA) a (.inl (3, n, .inr (.inl (vp_updL f i.toNatClampNeg x))))) ▸ g1, g3, hR.2.2⟩))
theorem jx_upM {f : Nat → Option Nat} {k x : Nat} {g : Nat → Nat} : (fun j => (va_up f k (some x) j).map g) = va_up (fun j => (f j).map g) k (some (g x)) := by
  funext j; unfold va_up; split <;> rfl
theorem ja_aastore (hi : jx_ins lv F M pc L st h (.aastore) = some (.inr (.inl z))) : jx_Arm SZ fa cA D F lv nL own cc ini (.aastore) pc L st h z := by
  obtain ⟨v, i, a, r, rfl, hi1⟩ := ji_via hi
  obtain ⟨x, rfl, hi2⟩ := ji_asR hi1
  obtain ⟨n, f, ci, fs, hc, hrs, hx, hin, hi3⟩ := ji_pa hi2
  obtain rfl := ji_to hi3
  refine ⟨jx_le_set hc rfl, fun n0 z0 p l e R s m args below meth c H locs ls Q C hd hR hn hz hc1 hc2 K => ?_⟩
  have hze : jx_sz (h.set a (.inl (10 + ci, n, .inr (.inr (va_up f i.toNatClampNeg (some x)))))) = jx_sz h := jx_sz_set hc rfl
  have hce : jx_ce SZ fa cA (.inl (10 + ci, n, .inr (.inr (va_up f i.toNatClampNeg (some x))))) = .inl (cA (10 + ci), n, .inr (.inr (.inr (.inr (va_up (fun j => (f j).map fun x => SZ + x) i.toNatClampNeg (some (SZ + x))))))) := by
    show Sum.inl (cA (10 + ci), n, Sum.inr (Sum.inr (Sum.inr (Sum.inr fun j => (va_up f i.toNatClampNeg (some x) j).map fun x => SZ + x)))) = _
    rw [jx_upM]
  have K1 : ∀ (H1 : Heap) (locs1 : List Loc), va_P D jx_cl ((jx_ws SZ fa cA h).set a (SZ + a, .inl (cA (10 + ci), n, .inr (.inr (.inr (.inr (va_up (fun j => (f j).map fun x => SZ + x) i.toNatClampNeg (some (SZ + x))))))))) H1 → va_D (jx_A SZ) ((jx_ws SZ fa cA h).set a (SZ + a, .inl (cA (10 + ci), n, .inr (.inr (.inr (.inr (va_up (fun j => (f j).map fun x => SZ + x) i.toNatClampNeg (some (SZ + x))))))))) → va_S (jx_A SZ) s.heap H1 locs1 → W p l e R s m args below meth c H1 locs1 (h.length - n0) (jx_sz h - z0) Q (F0 m (pc + 1) ls (r.map (jx_cv SZ fa))) := by
    intro H1 locs1 g1 _ g3
    rw [← hce, jw_set] at g1
    exact W.cs (by simp) (by rw [hze]) (K H1 locs1 ls ⟨g1, g3, hR.2.2⟩)
  have hci : ci = 0 ∨ ci = 2 := by
    unfold jx_rs at hrs
    rcases Bool.or_eq_true_iff.mp hrs with q | q
    · left; have := Nat.eq_of_beq_eq_true q; omega
    · right; have := Nat.eq_of_beq_eq_true q; omega
  rcases hci with rfl | rfl
  · exact va_astq C.1 C.2.1 C.2.2.2.2.2.1.1 hR.1 jw_D hR.2.1 a 4 x 0 (r := (jc_R0, jc_T0, 5)) (jw_get hc) rfl (jw_get hx) rfl hin (jd_k hd rfl rfl) K1
  · exact va_astq C.1 C.2.1 C.2.2.2.2.2.1.1 hR.1 jw_D hR.2.1 a 5 x 2 (r := (jc_R2, jc_T2, 3)) (jw_get hc) rfl (jw_get hx) rfl hin (jd_k hd rfl rfl) K1
theorem ja_arraylength (hi : jx_ins lv F M pc L st h (.arraylength) = some (.inr (.inl z))) : jx_Arm SZ fa cA D F lv nL own cc ini (.arraylength) pc L st h z := by
  rcases ji_a1 hi with ⟨a, r, rfl, hi1⟩ | ⟨a, r, rfl, hi1⟩
  · obtain ⟨t, n, x, hc, ht, hi2⟩ := ji_len hi1
    obtain rfl := ji_to hi2
    refine jx_rest rfl fun z0 p l e R s m args below meth c H locs ls Q n0 C hd hR K => ?_
    obtain ⟨t0, ht0⟩ := jt_ty (cA := cA) ht
    rcases x with f | f | f
    · exact va_alen C.1 C.2.1 C.2.2.2.2.2.1.1 hR.1 a t0 (jw_get hc) ht0 rfl (jd_k hd rfl rfl) (K ls hR.2.2)
    · exact va_alen C.1 C.2.1 C.2.2.2.2.2.1.1 hR.1 a t0 (jw_get hc) ht0 rfl (jd_k hd rfl rfl) (K ls hR.2.2)
    · exact va_alen C.1 C.2.1 C.2.2.2.2.2.1.1 hR.1 a t0 (jw_get hc) ht0 rfl (jd_k hd rfl rfl) (K ls hR.2.2)
  · obtain ⟨t, n, x, hc, hi2⟩ := ji_lenF hi1
    obtain rfl := ji_to hi2
    refine jx_rest rfl fun z0 p l e R s m args below meth c H locs ls Q n0 C hd hR K => ?_
    have hf := C.2.2.2.2.2.2.1.1 a _ hc
    rcases x with f | f | f
    · rcases hf with ⟨-, hT⟩ | ⟨-, hT⟩
      · exact va_tlen C.1 C.2.1 hT hR.2.1 rfl (jd_k hd rfl rfl) (K ls hR.2.2)
      · exact va_tlen C.1 C.2.1 hT hR.2.1 rfl (jd_k hd rfl rfl) (K ls hR.2.2)
    · exact hf.elim
    · exact hf.elim
/-- a new cell at the end -/
theorem jx_push {H H1 : Heap} {locs : List Loc} {s : State} {e : jx_C} (hsz : H.size = SZ + h.length) (hP : va_P D jx_cl (jx_ws SZ fa cA h) H) (hS : va_S (jx_A SZ) s.heap H locs) (hz : H1.size = SZ + h.length + 1) (ho : ∀ q, q < SZ + h.length → H1[q]? = H[q]?) (he : va_at D jx_cl (SZ + h.length, jx_ce SZ fa cA e) H1) :
    va_P D jx_cl (jx_ws SZ fa cA (h ++ [e])) H1 ∧ va_S (jx_A SZ) s.heap H1 locs := by
  refine ⟨?_, ?_, fun q h1 h2 => ?_, hS.2.2⟩
  · rw [← jw_app]
    refine (hP.kept fun k x hx => ho x.1 ?_).app (fun k x hx => ?_)
    · have := (hP k x hx).lt; omega
    · have hk : k < 1 := (List.getElem?_eq_some_iff.mp hx).1
      rw [show k = 0 by omega] at hx
      cases hx
      exact he
  · have := hS.1; omega
  · rw [ho q (by have := hS.1; omega)]
    exact hS.2.1 q h1 h2
end JArms3
