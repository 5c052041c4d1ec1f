/-- the law's run, on every script -/
theorem law_run {L : Nat} (xs : Nat → Int32) (hL : L ≤ 3072) (fm : Value) (hm : fm = .null ∨ ∃ k, fm = .retAddr k) : ∃ (N : Nat) (h1 : jx_H), jx_run (jx_fo L xs fm) N 11 182 [.retAddr 0] [] = some (some (.int 1), h1) ∧ h1.length ≤ 600000 ∧ jx_sz h1 ≤ 7302250 := by
  obtain ⟨I, J, e⟩ := law_rn (xs := xs) hm hL
  obtain ⟨N, hN⟩ := rn_iff.mp e
  have h1 := HH_len (I := I) (J := J)
  have h2 := HH_sz (I := I) (J := J)
  exact ⟨N, HH I J, hN, by omega, by omega⟩
theorem whole_start {p : Program} {e : Env} {s : State} {m : MethodId} {below : List Frame} {meth : Method} {c : Code} (l : Launch) (hflags : l.flags = flags0) {b L : Nat} {xs : Nat → Int32} (hL : L ≤ 3072) (C0 : lw_At p s m meth c b L xs) : W p l e room_1 s m #[Value.ref b] below meth c s.heap [] 0 0 (lw_Z below #[Value.ref b] s) (entryFrame m ([Value.ref b] : List Value).toArray 4) :=
  jz_walk l C0 (law_run xs hL)
