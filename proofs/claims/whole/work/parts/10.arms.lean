/-! ===== each instruction: what it does to the picture, it does to the machine ===== -/
def jx_Ctx (SZ n0 : Nat) (fa : Nat → Nat) (cA : Nat → ClassId) (D : va_G) (F : jx_F) (lv nL : Nat) (own : String) (cc : ByteArray) (ini : Bool) (p : Program) (R : Room) (s : State) (m : MethodId) (args : Array Value) (meth : Method) (c : Code) : Prop :=
  p.tables.exec = Jvm.exec ∧ c.code = cc ∧ c.maxLocals = nL ∧ (∀ w ∈ jx_G, w.before args s = true) ∧ s.vm.findClass own = some m.cls ∧ jx_Kn fa cA D s ∧ jx_FA SZ fa F s s.heap ∧ s.heap.size = SZ + n0 ∧ lv ≤ R.frames ∧ 38 * lv ≤ R.locals ∧ (ini = true → meth.name = "<init>")
def jx_Rel (SZ : Nat) (fa : Nat → Nat) (cA : Nat → ClassId) (D : va_G) (nL : Nat) (s : State) (h : jx_H) (H : Heap) (locs : List Loc) (ls : Array Slot) (L : List Value) : Prop :=
  va_P D jx_cl (jx_ws SZ fa cA h) H ∧ va_S (jx_A SZ) s.heap H locs ∧ jx_Lr SZ fa ls nL L
def jx_Arm (SZ : Nat) (fa : Nat → Nat) (cA : Nat → ClassId) (D : va_G) (F : jx_F) (lv nL : Nat) (own : String) (cc : ByteArray) (ini : Bool) (i : Instr) (pc : Nat) (L st : List Value) (h : jx_H) (z : jx_S) : Prop :=
  jx_le h z.2.2.2 ∧ ∀ (n0 z0 : Nat) (p : Program) (l : Launch) (e : Env) (R : Room) (s : State) (m : MethodId) (args : Array Value) (below : List Frame) (meth : Method) (c : Code) (H : Heap) (locs : List Loc) (ls : Array Slot) (Q : State → Prop),
    jx_Ctx SZ n0 fa cA D F lv nL own cc ini p R s m args meth c → jx_dk cc pc i → jx_Rel SZ fa cA D nL s h H locs ls L → n0 ≤ h.length → z0 ≤ jx_sz h → z.2.2.2.length - n0 ≤ R.cells → jx_sz z.2.2.2 - z0 ≤ R.slots →
    (∀ (H1 : Heap) (locs1 : List Loc) (ls1 : Array Slot), jx_Rel SZ fa cA D nL s z.2.2.2 H1 locs1 ls1 z.2.1 → W p l e R s m args below meth c H1 locs1 (z.2.2.2.length - n0) (jx_sz z.2.2.2 - z0) Q (F0 m z.1 ls1 (z.2.2.1.map (jx_cv SZ fa)))) →
    W p l e R s m args below meth c H locs (h.length - n0) (jx_sz h - z0) Q (F0 m pc ls (st.map (jx_cv SZ fa)))
section JArms
variable {SZ : Nat} {fa : Nat → Nat} {cA : Nat → ClassId} {D : va_G} {F : jx_F} {lv nL : Nat} {own : String} {cc : ByteArray} {M : jx_M} {pc : Nat} {L st : List Value} {h : jx_H} {z : jx_S}
theorem jx_hs {n0 sl : Nat} {p : Program} {l : Launch} {e : Env} {R : Room} {s : State} {m : MethodId} {args : Array Value} {below : List Frame} {meth : Method} {c : Code} {H : Heap} {locs : List Loc} {Q : State → Prop} {g : JFrame}
    (hs : s.heap.size = SZ + n0) (hn : n0 ≤ h.length) (hP : va_P D jx_cl (jx_ws SZ fa cA h) H) (hS : va_S (jx_A SZ) s.heap H locs) (k : H.size = SZ + h.length → W p l e R s m args below meth c H locs (h.length - n0) sl Q g) : W p l e R s m args below meth c H locs (h.length - n0) sl Q g := by
  intro T hT X
  refine k ?_ T hT X
  have h1 := X.heapSize
  rw [hT] at h1
  have h2 : SZ + h.length ≤ H.size := by
    by_cases h0 : h.length = n0
    · have := hS.1; omega
    · have hl : h.length - 1 < h.length := by omega
      have := (hP (h.length - 1) _ (jw_get (List.getElem?_eq_getElem hl))).lt
      have : SZ + (h.length - 1) < H.size := this
      omega
  omega
theorem jx_rest {ini : Bool} {i : Instr} (hz : z.2.2.2 = h) (k : ∀ (z0 : Nat) (p : Program) (l : Launch) (e : Env) (R : Room) (s : State) (m : MethodId) (args : Array Value) (below : List Frame) (meth : Method) (c : Code) (H : Heap) (locs : List Loc) (ls : Array Slot) (Q : State → Prop) (n0 : Nat),
    jx_Ctx SZ n0 fa cA D F lv nL own cc ini p R s m args meth c → jx_dk cc pc i → jx_Rel SZ fa cA D nL s h H locs ls L →
    (∀ (ls1 : Array Slot), jx_Lr SZ fa ls1 nL z.2.1 → W p l e R s m args below meth c H locs (h.length - n0) (jx_sz h - z0) Q (F0 m z.1 ls1 (z.2.2.1.map (jx_cv SZ fa)))) →
    W p l e R s m args below meth c H locs (h.length - n0) (jx_sz h - z0) Q (F0 m pc ls (st.map (jx_cv SZ fa)))) : jx_Arm SZ fa cA D F lv nL own cc ini i pc L st h z := by
  refine ⟨by rw [hz]; exact jx_le_rf, fun n0 z0 p l e R s m args below meth c H locs ls Q C hd hR _ _ _ _ K => ?_⟩
  refine k z0 p l e R s m args below meth c H locs ls Q n0 C hd hR (fun ls1 h1 => ?_)
  have := K H locs ls1 (by rw [hz]; exact ⟨hR.1, hR.2.1, h1⟩)
  rw [hz] at this
  exact this
end JArms
