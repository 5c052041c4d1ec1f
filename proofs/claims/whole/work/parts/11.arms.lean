section JArms1
variable {SZ : Nat} {fa : Nat → Nat} {cA : Nat → ClassId} {D : va_G} {F : jx_F} {lv nL : Nat} {own : String} {cc : ByteArray} {ini : Bool} {M : jx_M} {pc : Nat} {L st : List Value} {h : jx_H} {z : jx_S}
section JBr
variable {p : Program} {l : Launch} {e : Env} {R : Room} {s : State} {m : MethodId} {args : Array Value} {below : List Frame} {meth : Method} {c : Code} {H : Heap} {locs : List Loc} {cells slots : Nat} {Q : State → Prop} {ls : Array Slot} {rest : List Value}
theorem jb_icmp (hx : p.tables.exec = Jvm.exec) (hb : c.code = cc) {x y : Int32} {cnd : Jvm.ClassFile.Cond} {off : Int} {tgt : Nat} (hdg : decode cc pc = .ok (.if_icmp cnd off, 3)) (ht : (pc : Int) + off = (tgt : Int))
    (kt : jx_cmpB cnd x y = true → W p l e R s m args below meth c H locs cells slots Q (F0 m tgt ls rest)) (kf : jx_cmpB cnd x y = false → W p l e R s m args below meth c H locs cells slots Q (F0 m (pc + 3) ls rest)) : W p l e R s m args below meth c H locs cells slots Q (F0 m pc ls (.int y :: .int x :: rest)) := by
  cases cnd
  · exact lv_icmp_eq hx hb hdg ht (fun q => kt (decide_eq_true q)) (fun q => kf (decide_eq_false q))
  · exact lv_icmp_ne hx hb hdg ht (fun q => kt (decide_eq_true q)) (fun q => kf (decide_eq_false (fun w => w q)))
  · exact lv_icmp_lt hx hb hdg ht (fun q => kt (decide_eq_true q)) (fun q => kf (decide_eq_false q))
  · exact lv_icmp_ge hx hb hdg ht (fun q => kt (decide_eq_true q)) (fun q => kf (decide_eq_false q))
  · exact lv_icmp_gt hx hb hdg ht (fun q => kt (decide_eq_true q)) (fun q => kf (decide_eq_false q))
  · exact lv_icmp_le hx hb hdg ht (fun q => kt (decide_eq_true q)) (fun q => kf (decide_eq_false q))
theorem jb_if (hx : p.tables.exec = Jvm.exec) (hb : c.code = cc) {x : Int32} {cnd : Jvm.ClassFile.Cond} {off : Int} {tgt : Nat} (hdg : decode cc pc = .ok (.ifCond cnd off, 3)) (ht : (pc : Int) + off = (tgt : Int))
    (kt : jx_cmpB cnd x 0 = true → W p l e R s m args below meth c H locs cells slots Q (F0 m tgt ls rest)) (kf : jx_cmpB cnd x 0 = false → W p l e R s m args below meth c H locs cells slots Q (F0 m (pc + 3) ls rest)) : W p l e R s m args below meth c H locs cells slots Q (F0 m pc ls (.int x :: rest)) := by
  cases cnd
  · exact lv_if_eq hx hb hdg ht (fun q => kt (decide_eq_true q)) (fun q => kf (decide_eq_false q))
  · exact lv_if_ne hx hb hdg ht (fun q => kt (decide_eq_true q)) (fun q => kf (decide_eq_false (fun w => w q)))
  · exact lv_if_lt hx hb hdg ht (fun q => kt (decide_eq_true q)) (fun q => kf (decide_eq_false q))
  · exact lv_if_ge hx hb hdg ht (fun q => kt (decide_eq_true q)) (fun q => kf (decide_eq_false q))
  · exact lv_if_gt hx hb hdg ht (fun q => kt (decide_eq_true q)) (fun q => kf (decide_eq_false q))
  · exact lv_if_le hx hb hdg ht (fun q => kt (decide_eq_true q)) (fun q => kf (decide_eq_false q))
end JBr
theorem ja_iconst {v : Int} (hi : jx_ins lv F M pc L st h (.iconst v) = some (.inr (.inl z))) : jx_Arm SZ fa cA D F lv nL own cc ini (.iconst v) pc L st h z := by
  obtain rfl := ji_to hi
  exact jx_rest rfl fun z0 p l e R s m args below meth c H locs ls Q n0 C hd hR K => lv_iconst C.1 C.2.1 (jd_k hd rfl rfl) rfl (K ls hR.2.2)
theorem ja_bipush {v : Int} (hi : jx_ins lv F M pc L st h (.bipush v) = some (.inr (.inl z))) : jx_Arm SZ fa cA D F lv nL own cc ini (.bipush v) pc L st h z := by
  obtain rfl := ji_to hi
  exact jx_rest rfl fun z0 p l e R s m args below meth c H locs ls Q n0 C hd hR K => lv_bipush C.1 C.2.1 (jd_k hd rfl rfl) rfl (K ls hR.2.2)
theorem ja_sipush {v : Int} (hi : jx_ins lv F M pc L st h (.sipush v) = some (.inr (.inl z))) : jx_Arm SZ fa cA D F lv nL own cc ini (.sipush v) pc L st h z := by
  obtain rfl := ji_to hi
  exact jx_rest rfl fun z0 p l e R s m args below meth c H locs ls Q n0 C hd hR K => lv_sipush C.1 C.2.1 (jd_k hd rfl rfl) rfl (K ls hR.2.2)
theorem ja_lconst {v : Fin 2} (hi : jx_ins lv F M pc L st h (.lconst v) = some (.inr (.inl z))) : jx_Arm SZ fa cA D F lv nL own cc ini (.lconst v) pc L st h z := by
  obtain rfl := ji_to hi
  exact jx_rest rfl fun z0 p l e R s m args below meth c H locs ls Q n0 C hd hR K => lv_lconst C.1 C.2.1 (jd_k hd rfl rfl) rfl (K ls hR.2.2)
theorem ja_iload_n {v : Fin 4} (hi : jx_ins lv F M pc L st h (.iload_n v) = some (.inr (.inl z))) : jx_Arm SZ fa cA D F lv nL own cc ini (.iload_n v) pc L st h z := by
  obtain ⟨x, hx, hi1⟩ := ji_ldi hi
  obtain rfl := ji_to hi1
  exact jx_rest rfl fun z0 p l e R s m args below meth c H locs ls Q n0 C hd hR K => lv_iload_n C.1 C.2.1 (jd_k hd rfl rfl) rfl (jl_i hR.2.2 hx) (K ls hR.2.2)
theorem ja_iload {v : Nat} (hi : jx_ins lv F M pc L st h (.iload v) = some (.inr (.inl z))) : jx_Arm SZ fa cA D F lv nL own cc ini (.iload v) pc L st h z := by
  obtain ⟨x, hx, hi1⟩ := ji_ldi hi
  obtain rfl := ji_to hi1
  exact jx_rest rfl fun z0 p l e R s m args below meth c H locs ls Q n0 C hd hR K => lv_iload C.1 C.2.1 (jd_k hd rfl rfl) (jl_i hR.2.2 hx) (K ls hR.2.2)
theorem ja_lload_n {v : Fin 4} (hi : jx_ins lv F M pc L st h (.lload_n v) = some (.inr (.inl z))) : jx_Arm SZ fa cA D F lv nL own cc ini (.lload_n v) pc L st h z := by
  obtain ⟨x, hx, hi1⟩ := ji_ldl hi
  obtain rfl := ji_to hi1
  exact jx_rest rfl fun z0 p l e R s m args below meth c H locs ls Q n0 C hd hR K => lv_lload_n C.1 C.2.1 (jd_k hd rfl rfl) rfl (jl_l hR.2.2 hx) (K ls hR.2.2)
theorem ja_lload {v : Nat} (hi : jx_ins lv F M pc L st h (.lload v) = some (.inr (.inl z))) : jx_Arm SZ fa cA D F lv nL own cc ini (.lload v) pc L st h z := by
  obtain ⟨x, hx, hi1⟩ := ji_ldl hi
  obtain rfl := ji_to hi1
  exact jx_rest rfl fun z0 p l e R s m args below meth c H locs ls Q n0 C hd hR K => lv_lload C.1 C.2.1 (jd_k hd rfl rfl) (jl_l hR.2.2 hx) (K ls hR.2.2)
theorem ja_aload_n {v : Fin 4} (hi : jx_ins lv F M pc L st h (.aload_n v) = some (.inr (.inl z))) : jx_Arm SZ fa cA D F lv nL own cc ini (.aload_n v) pc L st h z := by
  have hi0 : jx_lda L (v : Nat) (fun x => jx_to (pc + 1) L (x :: st) h) = some (.inr (.inl z)) := hi
  rcases ji_lda hi0 with ⟨x, hx, hi1⟩ | ⟨x, hx, hi1⟩
  · obtain rfl := ji_to hi1
    exact jx_rest rfl fun z0 p l e R s m args below meth c H locs ls Q n0 C hd hR K => lv_aload_n C.1 C.2.1 (jd_k hd rfl rfl) rfl (jl_r hR.2.2 hx) (K ls hR.2.2)
  · obtain rfl := ji_to hi1
    exact jx_rest rfl fun z0 p l e R s m args below meth c H locs ls Q n0 C hd hR K => lv_aload_n C.1 C.2.1 (jd_k hd rfl rfl) rfl (jl_f hR.2.2 hx) (K ls hR.2.2)
theorem ja_aload {v : Nat} (hi : jx_ins lv F M pc L st h (.aload v) = some (.inr (.inl z))) : jx_Arm SZ fa cA D F lv nL own cc ini (.aload v) pc L st h z := by
  have hi0 : jx_lda L v (fun x => jx_to (pc + 2) L (x :: st) h) = some (.inr (.inl z)) := hi
  rcases ji_lda hi0 with ⟨x, hx, hi1⟩ | ⟨x, hx, hi1⟩
  · obtain rfl := ji_to hi1
    exact jx_rest rfl fun z0 p l e R s m args below meth c H locs ls Q n0 C hd hR K => lv_aload C.1 C.2.1 (jd_k hd rfl rfl) (jl_r hR.2.2 hx) (K ls hR.2.2)
  · obtain rfl := ji_to hi1
    exact jx_rest rfl fun z0 p l e R s m args below meth c H locs ls Q n0 C hd hR K => lv_aload C.1 C.2.1 (jd_k hd rfl rfl) (jl_f hR.2.2 hx) (K ls hR.2.2)
theorem ja_istore_n {v : Fin 4} (hi : jx_ins lv F M pc L st h (.istore_n v) = some (.inr (.inl z))) : jx_Arm SZ fa cA D F lv nL own cc ini (.istore_n v) pc L st h z := by
  obtain ⟨x, r, rfl, hi1⟩ := ji_i1 hi
  obtain ⟨h1, h2, hi2⟩ := ji_st1 hi1
  obtain rfl := ji_to hi2
  exact jx_rest rfl fun z0 p l e R s m args below meth c H locs ls Q n0 C hd hR K => lv_istore_n C.1 C.2.1 (jd_k hd rfl rfl) rfl (jl_has hR.2.2) (hR.2.2.2.2.1 ▸ h1) rfl (fun ls1 g1 => K ls1 (jl_st1 (v := .int x) hR.2.2 h2 g1))
theorem ja_istore {v : Nat} (hi : jx_ins lv F M pc L st h (.istore v) = some (.inr (.inl z))) : jx_Arm SZ fa cA D F lv nL own cc ini (.istore v) pc L st h z := by
  obtain ⟨x, r, rfl, hi1⟩ := ji_i1 hi
  obtain ⟨h1, h2, hi2⟩ := ji_st1 hi1
  obtain rfl := ji_to hi2
  exact jx_rest rfl fun z0 p l e R s m args below meth c H locs ls Q n0 C hd hR K => lv_istore C.1 C.2.1 (jd_k hd rfl rfl) (jl_has hR.2.2) (hR.2.2.2.2.1 ▸ h1) rfl (fun ls1 g1 => K ls1 (jl_st1 (v := .int x) hR.2.2 h2 g1))
theorem ja_lstore_n {v : Fin 4} (hi : jx_ins lv F M pc L st h (.lstore_n v) = some (.inr (.inl z))) : jx_Arm SZ fa cA D F lv nL own cc ini (.lstore_n v) pc L st h z := by
  obtain ⟨x, r, rfl, hi1⟩ := ji_l1 hi
  obtain ⟨h1, h2, hi2⟩ := ji_st2 hi1
  obtain rfl := ji_to hi2
  exact jx_rest rfl fun z0 p l e R s m args below meth c H locs ls Q n0 C hd hR K => lv_lstore_n C.1 C.2.1 (jd_k hd rfl rfl) rfl (jl_has hR.2.2) (hR.2.2.2.2.1 ▸ h1) rfl (fun ls1 g1 => K ls1 (jl_st2 (v := .long x) hR.2.2 h2 g1))
theorem ja_lstore {v : Nat} (hi : jx_ins lv F M pc L st h (.lstore v) = some (.inr (.inl z))) : jx_Arm SZ fa cA D F lv nL own cc ini (.lstore v) pc L st h z := by
  obtain ⟨x, r, rfl, hi1⟩ := ji_l1 hi
  obtain ⟨h1, h2, hi2⟩ := ji_st2 hi1
  obtain rfl := ji_to hi2
  exact jx_rest rfl fun z0 p l e R s m args below meth c H locs ls Q n0 C hd hR K => lv_lstore C.1 C.2.1 (jd_k hd rfl rfl) (jl_has hR.2.2) (hR.2.2.2.2.1 ▸ h1) rfl (fun ls1 g1 => K ls1 (jl_st2 (v := .long x) hR.2.2 h2 g1))
theorem ja_astore_n {v : Fin 4} (hi : jx_ins lv F M pc L st h (.astore_n v) = some (.inr (.inl z))) : jx_Arm SZ fa cA D F lv nL own cc ini (.astore_n v) pc L st h z := by
  rcases ji_a1 hi with ⟨x, r, rfl, hi1⟩ | ⟨x, r, rfl, hi1⟩
  · obtain ⟨h1, h2, hi2⟩ := ji_st1 hi1
    obtain rfl := ji_to hi2
    exact jx_rest rfl fun z0 p l e R s m args below meth c H locs ls Q n0 C hd hR K => lv_astore_n C.1 C.2.1 (jd_k hd rfl rfl) rfl (jl_has hR.2.2) (hR.2.2.2.2.1 ▸ h1) rfl (fun ls1 g1 => K ls1 (jl_st1 (v := .ref x) hR.2.2 h2 g1))
  · obtain ⟨h1, h2, hi3⟩ := ji_st1 hi1
    obtain rfl := ji_to hi3
    exact jx_rest rfl fun z0 p l e R s m args below meth c H locs ls Q n0 C hd hR K => lv_astore_n C.1 C.2.1 (jd_k hd rfl rfl) rfl (jl_has hR.2.2) (hR.2.2.2.2.1 ▸ h1) rfl (fun ls1 g1 => K ls1 (jl_st1 (v := .retAddr x) hR.2.2 h2 g1))
theorem ja_astore {v : Nat} (hi : jx_ins lv F M pc L st h (.astore v) = some (.inr (.inl z))) : jx_Arm SZ fa cA D F lv nL own cc ini (.astore v) pc L st h z := by
  rcases ji_a1 hi with ⟨x, r, rfl, hi1⟩ | ⟨x, r, rfl, hi1⟩
  · obtain ⟨h1, h2, hi2⟩ := ji_st1 hi1
    obtain rfl := ji_to hi2
    exact jx_rest rfl fun z0 p l e R s m args below meth c H locs ls Q n0 C hd hR K => lv_astore C.1 C.2.1 (jd_k hd rfl rfl) (jl_has hR.2.2) (hR.2.2.2.2.1 ▸ h1) rfl (fun ls1 g1 => K ls1 (jl_st1 (v := .ref x) hR.2.2 h2 g1))
  · obtain ⟨h1, h2, hi3⟩ := ji_st1 hi1
    obtain rfl := ji_to hi3
    exact jx_rest rfl fun z0 p l e R s m args below meth c H locs ls Q n0 C hd hR K => lv_astore C.1 C.2.1 (jd_k hd rfl rfl) (jl_has hR.2.2) (hR.2.2.2.2.1 ▸ h1) rfl (fun ls1 g1 => K ls1 (jl_st1 (v := .retAddr x) hR.2.2 h2 g1))
theorem ja_iinc {v : Nat} {n : Int} (hi : jx_ins lv F M pc L st h (.iinc v n) = some (.inr (.inl z))) : jx_Arm SZ fa cA D F lv nL own cc ini (.iinc v n) pc L st h z := by
  obtain ⟨x, hx, hi1⟩ := ji_ldi hi
  obtain ⟨h1, h2, hi2⟩ := ji_st1 hi1
  obtain rfl := ji_to hi2
  obtain ⟨k, hk⟩ := jl_ix (SZ := SZ) (fa := fa) hx
  exact jx_rest rfl fun z0 p l e R s m args below meth c H locs ls Q n0 C hd hR K => lv_iinc C.1 C.2.1 (jd_k hd rfl rfl) (jl_has hR.2.2) hk rfl (hR.2.2.2.2.1 ▸ h1) rfl (fun ls1 g1 => K ls1 (jl_st1 (v := .int (x + Int32.ofInt n)) hR.2.2 h2 g1))
theorem ja_iadd (hi : jx_ins lv F M pc L st h (.iadd) = some (.inr (.inl z))) : jx_Arm SZ fa cA D F lv nL own cc ini (.iadd) pc L st h z := by
  obtain ⟨x, y, r, rfl, hi1⟩ := ji_i2 hi
  obtain rfl := ji_to hi1
  exact jx_rest rfl fun z0 p l e R s m args below meth c H locs ls Q n0 C hd hR K => lv_iadd C.1 C.2.1 (jd_k hd rfl rfl) (K ls hR.2.2)
theorem ja_isub (hi : jx_ins lv F M pc L st h (.isub) = some (.inr (.inl z))) : jx_Arm SZ fa cA D F lv nL own cc ini (.isub) pc L st h z := by
  obtain ⟨x, y, r, rfl, hi1⟩ := ji_i2 hi
  obtain rfl := ji_to hi1
  exact jx_rest rfl fun z0 p l e R s m args below meth c H locs ls Q n0 C hd hR K => lv_isub C.1 C.2.1 (jd_k hd rfl rfl) (K ls hR.2.2)
theorem ja_imul (hi : jx_ins lv F M pc L st h (.imul) = some (.inr (.inl z))) : jx_Arm SZ fa cA D F lv nL own cc ini (.imul) pc L st h z := by
  obtain ⟨x, y, r, rfl, hi1⟩ := ji_i2 hi
  obtain rfl := ji_to hi1
  exact jx_rest rfl fun z0 p l e R s m args below meth c H locs ls Q n0 C hd hR K => lv_imul C.1 C.2.1 (jd_k hd rfl rfl) (K ls hR.2.2)
theorem ja_iand (hi : jx_ins lv F M pc L st h (.iand) = some (.inr (.inl z))) : jx_Arm SZ fa cA D F lv nL own cc ini (.iand) pc L st h z := by
  obtain ⟨x, y, r, rfl, hi1⟩ := ji_i2 hi
  obtain rfl := ji_to hi1
  exact jx_rest rfl fun z0 p l e R s m args below meth c H locs ls Q n0 C hd hR K => lv_iand C.1 C.2.1 (jd_k hd rfl rfl) (K ls hR.2.2)
theorem ja_ior (hi : jx_ins lv F M pc L st h (.ior) = some (.inr (.inl z))) : jx_Arm SZ fa cA D F lv nL own cc ini (.ior) pc L st h z := by
  obtain ⟨x, y, r, rfl, hi1⟩ := ji_i2 hi
  obtain rfl := ji_to hi1
  exact jx_rest rfl fun z0 p l e R s m args below meth c H locs ls Q n0 C hd hR K => lv_ior C.1 C.2.1 (jd_k hd rfl rfl) (K ls hR.2.2)
theorem ja_ixor (hi : jx_ins lv F M pc L st h (.ixor) = some (.inr (.inl z))) : jx_Arm SZ fa cA D F lv nL own cc ini (.ixor) pc L st h z := by
  obtain ⟨x, y, r, rfl, hi1⟩ := ji_i2 hi
  obtain rfl := ji_to hi1
  exact jx_rest rfl fun z0 p l e R s m args below meth c H locs ls Q n0 C hd hR K => lv_ixor C.1 C.2.1 (jd_k hd rfl rfl) (K ls hR.2.2)
theorem ja_ishl (hi : jx_ins lv F M pc L st h (.ishl) = some (.inr (.inl z))) : jx_Arm SZ fa cA D F lv nL own cc ini (.ishl) pc L st h z := by
  obtain ⟨x, y, r, rfl, hi1⟩ := ji_i2 hi
  obtain rfl := ji_to hi1
  exact jx_rest rfl fun z0 p l e R s m args below meth c H locs ls Q n0 C hd hR K => lv_ishl C.1 C.2.1 (jd_k hd rfl rfl) (K ls hR.2.2)
theorem ja_ishr (hi : jx_ins lv F M pc L st h (.ishr) = some (.inr (.inl z))) : jx_Arm SZ fa cA D F lv nL own cc ini (.ishr) pc L st h z := by
  obtain ⟨x, y, r, rfl, hi1⟩ := ji_i2 hi
  obtain rfl := ji_to hi1
  exact jx_rest rfl fun z0 p l e R s m args below meth c H locs ls Q n0 C hd hR K => lv_ishr C.1 C.2.1 (jd_k hd rfl rfl) (K ls hR.2.2)
theorem ja_iushr (hi : jx_ins lv F M pc L st h (.iushr) = some (.inr (.inl z))) : jx_Arm SZ fa cA D F lv nL own cc ini (.iushr) pc L st h z := by
  obtain ⟨x, y, r, rfl, hi1⟩ := ji_i2 hi
  obtain rfl := ji_to hi1
  exact jx_rest rfl fun z0 p l e R s m args below meth c H locs ls Q n0 C hd hR K => lv_iushr C.1 C.2.1 (jd_k hd rfl rfl) rfl (K ls hR.2.2)
theorem ja_idiv (hi : jx_ins lv F M pc L st h (.idiv) = some (.inr (.inl z))) : jx_Arm SZ fa cA D F lv nL own cc ini (.idiv) pc L st h z := by
  obtain ⟨x, y, r, rfl, hi1⟩ := ji_i2 hi
  rcases ji_if hi1 with ⟨_, hi2⟩ | ⟨h0, hi2⟩
  · cases hi2
  · obtain rfl := ji_to hi2
    exact jx_rest rfl fun z0 p l e R s m args below meth c H locs ls Q n0 C hd hR K => lv_idiv C.1 C.2.1 (jd_k hd rfl rfl) h0 (K ls hR.2.2)
theorem ja_irem (hi : jx_ins lv F M pc L st h (.irem) = some (.inr (.inl z))) : jx_Arm SZ fa cA D F lv nL own cc ini (.irem) pc L st h z := by
  obtain ⟨x, y, r, rfl, hi1⟩ := ji_i2 hi
  rcases ji_if hi1 with ⟨_, hi2⟩ | ⟨h0, hi2⟩
  · cases hi2
  · obtain rfl := ji_to hi2
    exact jx_rest rfl fun z0 p l e R s m args below meth c H locs ls Q n0 C hd hR K => lv_irem C.1 C.2.1 (jd_k hd rfl rfl) h0 (K ls hR.2.2)
theorem ja_ladd (hi : jx_ins lv F M pc L st h (.ladd) = some (.inr (.inl z))) : jx_Arm SZ fa cA D F lv nL own cc ini (.ladd) pc L st h z := by
  obtain ⟨x, y, r, rfl, hi1⟩ := ji_l2 hi
  obtain rfl := ji_to hi1
  exact jx_rest rfl fun z0 p l e R s m args below meth c H locs ls Q n0 C hd hR K => lv_ladd C.1 C.2.1 (jd_k hd rfl rfl) (K ls hR.2.2)
theorem ja_lcmp (hi : jx_ins lv F M pc L st h (.lcmp) = some (.inr (.inl z))) : jx_Arm SZ fa cA D F lv nL own cc ini (.lcmp) pc L st h z := by
  obtain ⟨x, y, r, rfl, hi1⟩ := ji_l2 hi
  obtain rfl := ji_to hi1
  exact jx_rest rfl fun z0 p l e R s m args below meth c H locs ls Q n0 C hd hR K => W.lcmp C.1 C.2.1 (jd_k hd rfl rfl) (K ls hR.2.2)
theorem ja_lshl (hi : jx_ins lv F M pc L st h (.lshl) = some (.inr (.inl z))) : jx_Arm SZ fa cA D F lv nL own cc ini (.lshl) pc L st h z := by
  obtain ⟨x, y, r, rfl, hi1⟩ := ji_li hi
  obtain rfl := ji_to hi1
  exact jx_rest rfl fun z0 p l e R s m args below meth c H locs ls Q n0 C hd hR K => lv_lshl C.1 C.2.1 (jd_k hd rfl rfl) rfl (K ls hR.2.2)
theorem ja_lushr (hi : jx_ins lv F M pc L st h (.lushr) = some (.inr (.inl z))) : jx_Arm SZ fa cA D F lv nL own cc ini (.lushr) pc L st h z := by
  obtain ⟨x, y, r, rfl, hi1⟩ := ji_li hi
  obtain rfl := ji_to hi1
  exact jx_rest rfl fun z0 p l e R s m args below meth c H locs ls Q n0 C hd hR K => lv_lushr C.1 C.2.1 (jd_k hd rfl rfl) rfl (K ls hR.2.2)
theorem ja_i2l (hi : jx_ins lv F M pc L st h (.i2l) = some (.inr (.inl z))) : jx_Arm SZ fa cA D F lv nL own cc ini (.i2l) pc L st h z := by
  obtain ⟨x, r, rfl, hi1⟩ := ji_i1 hi
  obtain rfl := ji_to hi1
  exact jx_rest rfl fun z0 p l e R s m args below meth c H locs ls Q n0 C hd hR K => lv_i2l C.1 C.2.1 (jd_k hd rfl rfl) rfl (K ls hR.2.2)
theorem ja_l2i (hi : jx_ins lv F M pc L st h (.l2i) = some (.inr (.inl z))) : jx_Arm SZ fa cA D F lv nL own cc ini (.l2i) pc L st h z := by
  obtain ⟨x, r, rfl, hi1⟩ := ji_l1 hi
  obtain rfl := ji_to hi1
  exact jx_rest rfl fun z0 p l e R s m args below meth c H locs ls Q n0 C hd hR K => lv_l2i C.1 C.2.1 (jd_k hd rfl rfl) rfl (K ls hR.2.2)
theorem ja_i2c (hi : jx_ins lv F M pc L st h (.i2c) = some (.inr (.inl z))) : jx_Arm SZ fa cA D F lv nL own cc ini (.i2c) pc L st h z := by
  obtain ⟨x, r, rfl, hi1⟩ := ji_i1 hi
  obtain rfl := ji_to hi1
  exact jx_rest rfl fun z0 p l e R s m args below meth c H locs ls Q n0 C hd hR K => lv_i2c C.1 C.2.1 (jd_k hd rfl rfl) rfl (K ls hR.2.2)
theorem ja_dup (hi : jx_ins lv F M pc L st h (.dup) = some (.inr (.inl z))) : jx_Arm SZ fa cA D F lv nL own cc ini (.dup) pc L st h z := by
  obtain ⟨v, r, rfl, hv, hi1⟩ := ji_v1 hi
  obtain rfl := ji_to hi1
  exact jx_rest rfl fun z0 p l e R s m args below meth c H locs ls Q n0 C hd hR K => lv_dup C.1 C.2.1 (jd_k hd rfl rfl) ((jx_cat v).trans hv) (K ls hR.2.2)
theorem ja_pop (hi : jx_ins lv F M pc L st h (.pop) = some (.inr (.inl z))) : jx_Arm SZ fa cA D F lv nL own cc ini (.pop) pc L st h z := by
  obtain ⟨v, r, rfl, hv, hi1⟩ := ji_v1 hi
  obtain rfl := ji_to hi1
  exact jx_rest rfl fun z0 p l e R s m args below meth c H locs ls Q n0 C hd hR K => lv_pop C.1 C.2.1 (jd_k hd rfl rfl) ((jx_cat v).trans hv) (K ls hR.2.2)
theorem ja_dup2 (hi : jx_ins lv F M pc L st h (.dup2) = some (.inr (.inl z))) : jx_Arm SZ fa cA D F lv nL own cc ini (.dup2) pc L st h z := by
  obtain ⟨v, r, rfl, hv, hi1⟩ := ji_v1 hi
  obtain ⟨w, r, rfl, hw, hi2⟩ := ji_v1 hi1
  obtain rfl := ji_to hi2
  exact jx_rest rfl fun z0 p l e R s m args below meth c H locs ls Q n0 C hd hR K => lv_dup2_11 C.1 C.2.1 (jd_k hd rfl rfl) ((jx_cat v).trans hv) ((jx_cat w).trans hw) (K ls hR.2.2)
theorem ja_if_icmp {cnd : Jvm.ClassFile.Cond} {off : Int} (hi : jx_ins lv F M pc L st h (.if_icmp cnd off) = some (.inr (.inl z))) : jx_Arm SZ fa cA D F lv nL own cc ini (.if_icmp cnd off) pc L st h z := by
  obtain ⟨x, y, r, rfl, hi1⟩ := ji_i2 hi
  obtain ⟨ht, hc⟩ := ji_br hi1
  rcases hc with ⟨hc, rfl⟩ | ⟨hc, rfl⟩
  · exact jx_rest rfl fun z0 p l e R s m args below meth c H locs ls Q n0 C hd hR K => jb_icmp C.1 C.2.1 (jd_k hd rfl rfl) ht (fun _ => K ls hR.2.2) (fun q => by rw [hc] at q; cases q)
  · exact jx_rest rfl fun z0 p l e R s m args below meth c H locs ls Q n0 C hd hR K => jb_icmp C.1 C.2.1 (jd_k hd rfl rfl) ht (fun q => by rw [hc] at q; cases q) (fun _ => K ls hR.2.2)
theorem ja_ifCond {cnd : Jvm.ClassFile.Cond} {off : Int} (hi : jx_ins lv F M pc L st h (.ifCond cnd off) = some (.inr (.inl z))) : jx_Arm SZ fa cA D F lv nL own cc ini (.ifCond cnd off) pc L st h z := by
  obtain ⟨x, r, rfl, hi1⟩ := ji_i1 hi
  obtain ⟨ht, hc⟩ := ji_br hi1
  rcases hc with ⟨hc, rfl⟩ | ⟨hc, rfl⟩
  · exact jx_rest rfl fun z0 p l e R s m args below meth c H locs ls Q n0 C hd hR K => jb_if C.1 C.2.1 (jd_k hd rfl rfl) ht (fun _ => K ls hR.2.2) (fun q => by rw [hc] at q; cases q)
  · exact jx_rest rfl fun z0 p l e R s m args below meth c H locs ls Q n0 C hd hR K => jb_if C.1 C.2.1 (jd_k hd rfl rfl) ht (fun q => by rw [hc] at q; cases q) (fun _ => K ls hR.2.2)
theorem ja_goto {off : Int} (hi : jx_ins lv F M pc L st h (.goto off) = some (.inr (.inl z))) : jx_Arm SZ fa cA D F lv nL own cc ini (.goto off) pc L st h z := by
  obtain ⟨ht, hc⟩ := ji_br hi
  rcases hc with ⟨_, rfl⟩ | ⟨hc, _⟩
  · exact jx_rest rfl fun z0 p l e R s m args below meth c H locs ls Q n0 C hd hR K => lv_goto C.1 C.2.1 (jd_k hd rfl rfl) ht (K ls hR.2.2)
  · cases hc
theorem ja_tableswitch {d lo hi' : Int} {offs : Array Int} (hi : jx_ins lv F M pc L st h (.tableswitch d lo hi' offs) = some (.inr (.inl z))) : jx_Arm SZ fa cA D F lv nL own cc ini (.tableswitch d lo hi' offs) pc L st h z := by
  obtain ⟨x, r, rfl, hi1⟩ := ji_i1 hi
  obtain ⟨off, ho, hi2⟩ := ji_swk hi1
  obtain ⟨ht, hc⟩ := ji_br hi2
  rcases hc with ⟨_, rfl⟩ | ⟨hc, _⟩
  · refine jx_rest rfl fun z0 p l e R s m args below meth c H locs ls Q n0 C hd hR K => ?_
    obtain ⟨n, hdg, -⟩ := hd
    unfold jx_sw at ho
    by_cases q : x.toInt < lo ∨ hi' < x.toInt
    · rw [if_pos q] at ho
      cases ho
      exact lv_tableOut C.1 C.2.1 hdg q ht (K ls hR.2.2)
    · rw [if_neg q] at ho
      exact lv_tableIn C.1 C.2.1 hdg (fun w => q (Or.inl w)) (fun w => q (Or.inr w)) (by rw [← Array.getElem?_toList]; exact ho) ht (K ls hR.2.2)
  · cases hc
end JArms1
