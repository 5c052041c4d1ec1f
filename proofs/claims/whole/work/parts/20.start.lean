/-! ===== the law's entry: what is known there, and the claim out of a run of the interpreter ===== -/
def jx_len8 : List Nat := jx_byt.map List.length
def jx_tm (i : Nat) : Term := .string (jx_strs.getD i ("", 0, "", 0)).1 (jx_strs.getD i ("", 0, "", 0)).2.1
def jx_fl : List Cond := flatC (Jvm.Cond.and given_1 narrow_1)
theorem jz_ex : ∀ i, i < 8 → Cond.exactly (jx_tm i) "java/lang/String" ∈ jx_fl := by decide +kernel
theorem jz_co : ∀ i, i < 8 → Cond.eq (.field (jx_tm i) "java/lang/String" "coder" "B") (.int 0) ∈ jx_fl := by decide +kernel
theorem jz_ar : ∀ i, i < 8 → Cond.arrayOf (.field (jx_tm i) "java/lang/String" "value" "[B") .byte ∈ jx_fl := by decide +kernel
theorem jz_le : ∀ i, i < 8 → Cond.eq (.length (.field (jx_tm i) "java/lang/String" "value" "[B")) (.int (Int32.ofNat (jx_len8.getD i 0))) ∈ jx_fl := by decide +kernel
theorem jz_el : ∀ i, i < 8 → ∀ j, j < jx_len8.getD i 0 → Cond.eq (.elem (.field (jx_tm i) "java/lang/String" "value" "[B") (.int (Int32.ofNat j))) (.int ((jx_byt.getD i []).getD j 0)) ∈ jx_fl := by decide +kernel
theorem jz_ne : ∀ i, i < 8 → ∀ j, j < 8 → i ≠ j → (Cond.not (Cond.eq (jx_tm i) (jx_tm j)) ∈ jx_fl ∨ Cond.not (Cond.eq (jx_tm j) (jx_tm i)) ∈ jx_fl) := by decide +kernel
theorem jz_n : ∀ i : Nat, i < 8 → jx_len8.getD i 0 < 2 ^ 31 := by decide +kernel
theorem jz_ab0 : Cond.arrayOf (.static "OppositeThreads$Kinds" "ABOVE" "[I") .int ∈ jx_fl := by decide +kernel
theorem jz_ab1 : Cond.eq (.length (.static "OppositeThreads$Kinds" "ABOVE" "[I")) (.int (Int32.ofNat 6)) ∈ jx_fl := by decide +kernel
theorem jz_ab2 : ∀ j, j < 6 → Cond.eq (.elem (.static "OppositeThreads$Kinds" "ABOVE" "[I") (.int (Int32.ofNat j))) (.int (jx_above j)) ∈ jx_fl := by decide +kernel
theorem jz_cs : Cond.eq (.static "java/lang/String" "COMPACT_STRINGS" "Z") (.int 1) ∈ jx_fl := by decide +kernel
theorem jz_fm : Cond.isRef (.static "jdk/internal/util/Preconditions" "SIOOBE_FORMATTER" "Ljava/util/function/BiFunction;") ∈ jx_fl := by decide +kernel
theorem jz_str : ∀ i, i < 8 → ∃ q, jx_strs[i]? = some q ∧ jx_tm i = .string q.1 q.2.1 ∧ q.2.2.2 = 2 + i := by
  intro i hi
  have : ∀ i, i < 8 → jx_tm i = .string (jx_strs.getD i ("", 0, "", 0)).1 (jx_strs.getD i ("", 0, "", 0)).2.1 ∧ (jx_strs.getD i ("", 0, "", 0)).2.2.2 = 2 + i := by decide +kernel
  obtain ⟨h1, h2⟩ := this i hi
  have hl : i < jx_strs.length := hi
  refine ⟨jx_strs[i], List.getElem?_eq_getElem hl, ?_, ?_⟩
  · rw [h1, List.getD_eq_getElem?_getD, List.getElem?_eq_getElem hl]; rfl
  · rw [← h2, List.getD_eq_getElem?_getD, List.getElem?_eq_getElem hl]; rfl
theorem jz_lays {args : Array Value} {s : State} (hts : ∀ w ∈ lw_tbl, w.before args s = true) : ∃ D : va_G, ∀ (ci : Nat) (r : vw_C), jx_cl[ci]? = some r → u_Kn s r.1 r.2.1 r.2.2 (D.1 ci) (D.2 ci) := by
  have h : ∀ ci : Nat, ∃ q : ClassId × (Nat → Nat), ∀ r : vw_C, jx_cl[ci]? = some r → u_Kn s r.1 r.2.1 r.2.2 q.1 q.2 := by
    intro ci
    cases hc : jx_cl[ci]? with
    | none => exact ⟨(0, id), fun r hr => by cases hr⟩
    | some r =>
      obtain ⟨ty, fs, hw, -, -, -, -, -, hi, -, -⟩ := jx_clOk ci r hc
      obtain ⟨cC, iS, hK⟩ := u_known (ws := jx_G) (fun w hw => hts w (List.mem_filter.mp hw).1) hw (hts _ (List.mem_filter.mp hi).1)
      exact ⟨(cC, iS), fun r' hr => by cases hr; exact hK⟩
  obtain ⟨f, hf⟩ := Classical.axiomOfChoice h
  exact ⟨(fun ci => (f ci).1, fun ci => (f ci).2), hf⟩
theorem jz_arr {args : Array Value} {s : State} {ty : FieldType} (h : (Cond.arrayClass ty).before args s = true) : ∃ c, ArrOfT s c ty ∧ s.vm.findClass ("[" ++ ty.toString) = some c := by
  obtain ⟨c, k, comp, h1, h2, h3⟩ := Cond.arrayClass_spec h
  exact ⟨c, fun n z => ⟨(fun k h => by cases h), k, h2, comp, h3⟩, h1⟩
theorem jz_arrO {s : State} {C : String} (h : va_AO C s) : ∃ c, ArrOfT s c (.object C) ∧ va_RA s c (.object C) := by
  obtain ⟨comp, c, k, h1, h2, h3, h4, h5⟩ := Cond.arrayOver_spec h
  exact ⟨c, fun n z => ⟨(fun k h => by cases h), k, h3, comp, h4⟩, k, comp, h3, h4, h1, h5⟩
/-- what the law's entry knows -/
theorem jz_start {p : Program} {s : State} {m : MethodId} {meth : Method} {c : Code} {b L : Nat} {xs : Nat → Int32} (C0 : lw_At p s m meth c b L xs) :
    ∃ (fa : Nat → Nat) (cA : Nat → ClassId) (D : va_G) (fm : Value), (fm = .null ∨ ∃ k, fm = .retAddr k) ∧ fa 0 = b ∧ jx_Kn fa cA D s ∧ jx_FA s.heap.size fa (jx_fo L xs fm) s s.heap := by
  obtain ⟨hx, hb, hr, hml, hown, hts, hX, hbl, hlocks, hgv⟩ := C0
  have hfl : ∀ w ∈ jx_fl, w.before #[Value.ref b] s = true := flat_of_before _ hgv
  have hA : ∀ a : Nat, a < s.heap.size → ¬ jx_A s.heap.size a := fun a h1 h2 => Nat.not_lt.mpr h2 h1
  obtain ⟨D, hD⟩ := jz_lays hts
  obtain ⟨c0, r0, n0⟩ := jz_arr (hts _ (List.mem_filter.mp jg_ar_int).1)
  obtain ⟨c1, r1, n1⟩ := jz_arr (hts _ (List.mem_filter.mp jg_ar_char).1)
  obtain ⟨c2, r2, n2⟩ := jz_arr (hts _ (List.mem_filter.mp jg_ar_boolean).1)
  obtain ⟨c3, r3, n3⟩ := jz_arr (hts _ (List.mem_filter.mp jg_ar_long).1)
  have ha0 : va_AO jc_R0 s := va_AO.of (hts _ jg_ao0)
  have ha2 : va_AO jc_R2 s := va_AO.of (hts _ jg_ao2)
  obtain ⟨c4, r4, n4⟩ := jz_arrO ha0
  obtain ⟨c5, r5, n5⟩ := jz_arrO ha2
  obtain ⟨adK, adV, hS, hSe⟩ := vk_Sof (A := jx_A s.heap.size) (N := 8) (tm := jx_tm) (len := jx_len8) (byt := jx_byt) jz_n (fun i hi => hfl _ (jz_ex i hi)) (fun i hi => hfl _ (jz_co i hi)) (fun i hi => hfl _ (jz_ar i hi)) (fun i hi => hfl _ (jz_le i hi)) (fun i hi j hj => hfl _ (jz_el i hi j hj)) (fun i j hi hj hij => (jz_ne i hi j hj hij).imp (hfl _) (hfl _)) hA
  obtain ⟨tA, htA, hTA⟩ := va_Tof (f := fun j => .int (jx_above j)) (N := 6) (A := jx_A s.heap.size) (by decide) (hfl _ jz_ab0) (va_eqt (hfl _ jz_ab1)) (fun j hj => va_eqt (hfl _ (jz_ab2 j hj))) hA
  have hZ0 := va_Zof (A := jx_A s.heap.size) (hts _ jg_ls0) (hts _ jg_si0) (va_eqi (hfl _ jz_cs)) hA
  have hZ2 := va_Zref (A := jx_A s.heap.size) (hts _ jg_ls2) (hts _ jg_si2) htA hA
  have hZ1 := va_Zqof (A := jx_A s.heap.size) (hts _ jg_ls1) (hts _ jg_si1) (hfl _ jz_fm) hA
  obtain ⟨fm, tF, hfm, hZf⟩ : ∃ (fm : Value) (tF : Nat), (fm = .null ∨ fm = .retAddr 18) ∧ va_Z "jdk/internal/util/Preconditions" "SIOOBE_FORMATTER" "Ljava/util/function/BiFunction;" (if fm = .null then .null else .ref tF) (jx_A s.heap.size) s s.heap := by
    rcases hZ1 with h | ⟨t, h⟩
    · exact ⟨.null, 0, Or.inl rfl, h⟩
    · exact ⟨.retAddr 18, t, Or.inr rfl, h⟩
  refine ⟨fun j => if j = 0 then b else if j = 1 then tA else if j < 10 then adK (j - 2) else if j < 18 then adV (j - 10) else tF, fun t => if t = 0 then c0 else if t = 1 then c1 else if t = 2 then c2 else if t = 3 then c3 else if t = 10 then c4 else c5, D, fm, hfm.imp id (fun q => ⟨18, q⟩), rfl, ⟨⟨hD, fun k q hk => ?_⟩, fun w hw => ?_, ha0, ha2, fun q hq => ?_⟩, fun j e he => ?_, fun j v q hv hq => ?_⟩
  · have hk6 : k < 6 := (List.getElem?_eq_some_iff.mp hk).1
    by_cases e0 : k = 0
    · subst e0; cases hk; exact ⟨r0, n0⟩
    by_cases e1 : k = 1
    · subst e1; cases hk; exact ⟨r1, n1⟩
    by_cases e2 : k = 2
    · subst e2; cases hk; exact ⟨r2, n2⟩
    by_cases e3 : k = 3
    · subst e3; cases hk; exact ⟨r3, n3⟩
    by_cases e4 : k = 4
    · subst e4; cases hk; exact ⟨r4, n4⟩
    have e5 : k = 5 := by omega
    subst e5; cases hk; exact ⟨r5, n5⟩
  · have hn := hts w (jg_nest w hw)
    obtain ⟨a, i, b', n, d, g, rfl⟩ := jx_nestOk w hw
    exact va_Nw.of rfl hn
  · obtain ⟨i, hi⟩ := List.getElem?_of_mem hq
    have hi8 : i < 8 := (List.getElem?_eq_some_iff.mp hi).1
    obtain ⟨q', g1, g2, g3⟩ := jz_str i hi8
    cases hi.symm.trans g1
    have hev := hSe i hi8
    rw [g2] at hev
    refine vk_R.of (A := #[Value.ref b]) (hts _ (jg_strs q hq)) ?_
    rw [g3]
    have : (if 2 + i = 0 then b else if 2 + i = 1 then tA else if 2 + i < 10 then adK (2 + i - 2) else if 2 + i < 18 then adV (2 + i - 10) else tF) = adK i := by
      rw [if_neg (by omega), if_neg (by omega), if_pos (by omega)]; congr 1; omega
    exact hev.trans (congrArg (fun a => some (Value.ref a)) this.symm)
  · have hj : j < 18 := (List.getElem?_eq_some_iff.mp he).1
    by_cases e0 : j = 0
    · subst e0; cases he
      obtain ⟨scr, s1, s2, s3, s4, s5⟩ := hX
      exact Or.inl ⟨rfl, scr, s1, s2, s3, by omega, by rw [s4], s5, hA b hbl⟩
    by_cases e1 : j = 1
    · subst e1; cases he
      exact Or.inl ⟨rfl, hTA⟩
    by_cases e2 : j = 2
    · subst e2; cases he
      have h := hS.1 0 (by decide)
      exact ⟨rfl, h.1, h.2.2.1, h.2.1⟩
    by_cases e3 : j = 3
    · subst e3; cases he
      have h := hS.1 1 (by decide)
      exact ⟨rfl, h.1, h.2.2.1, h.2.1⟩
    by_cases e4 : j = 4
    · subst e4; cases he
      have h := hS.1 2 (by decide)
      exact ⟨rfl, h.1, h.2.2.1, h.2.1⟩
    by_cases e5 : j = 5
    · subst e5; cases he
      have h := hS.1 3 (by decide)
      exact ⟨rfl, h.1, h.2.2.1, h.2.1⟩
    by_cases e6 : j = 6
    · subst e6; cases he
      have h := hS.1 4 (by decide)
      exact ⟨rfl, h.1, h.2.2.1, h.2.1⟩
    by_cases e7 : j = 7
    · subst e7; cases he
      have h := hS.1 5 (by decide)
      exact ⟨rfl, h.1, h.2.2.1, h.2.1⟩
    by_cases e8 : j = 8
    · subst e8; cases he
      have h := hS.1 6 (by decide)
      exact ⟨rfl, h.1, h.2.2.1, h.2.1⟩
    by_cases e9 : j = 9
    · subst e9; cases he
      have h := hS.1 7 (by decide)
      exact ⟨rfl, h.1, h.2.2.1, h.2.1⟩
    by_cases e10 : j = 10
    · subst e10; cases he
      exact Or.inr ⟨rfl, (hS.1 0 (by decide)).2.2.2⟩
    by_cases e11 : j = 11
    · subst e11; cases he
      exact Or.inr ⟨rfl, (hS.1 1 (by decide)).2.2.2⟩
    by_cases e12 : j = 12
    · subst e12; cases he
      exact Or.inr ⟨rfl, (hS.1 2 (by decide)).2.2.2⟩
    by_cases e13 : j = 13
    · subst e13; cases he
      exact Or.inr ⟨rfl, (hS.1 3 (by decide)).2.2.2⟩
    by_cases e14 : j = 14
    · subst e14; cases he
      exact Or.inr ⟨rfl, (hS.1 4 (by decide)).2.2.2⟩
    by_cases e15 : j = 15
    · subst e15; cases he
      exact Or.inr ⟨rfl, (hS.1 5 (by decide)).2.2.2⟩
    by_cases e16 : j = 16
    · subst e16; cases he
      exact Or.inr ⟨rfl, (hS.1 6 (by decide)).2.2.2⟩
    have e17 : j = 17 := by omega
    subst e17; cases he
    exact Or.inr ⟨rfl, (hS.1 7 (by decide)).2.2.2⟩
  · have hj : j < 3 := (List.getElem?_eq_some_iff.mp hq).1
    by_cases e0 : j = 0
    · subst e0; cases hv; cases hq; exact hZ0
    by_cases e1 : j = 1
    · subst e1; cases hv; cases hq
      rcases hfm with rfl | rfl
      · exact hZf
      · exact hZf
    have e2 : j = 2 := by omega
    subst e2; cases hv; cases hq; exact hZ2
/-- the law's code -/
theorem jz_dec : jx_dec code jm_Law_law.2.2.2.2.2.2 = true := jl_all
/-- the claim's walk, out of a run of the interpreter -/
theorem jz_walk {p : Program} {e : Env} {s : State} {m : MethodId} {below : List Frame} {meth : Method} {c : Code} (l : Launch) {b L : Nat} {xs : Nat → Int32} (C0 : lw_At p s m meth c b L xs)
    (hrun : ∀ fm : Value, (fm = .null ∨ ∃ k, fm = .retAddr k) → ∃ (N : Nat) (h1 : jx_H), jx_run (jx_fo L xs fm) N 11 182 [.retAddr 0] [] = some (some (.int 1), h1) ∧ h1.length ≤ 600000 ∧ jx_sz h1 ≤ 7302250) :
    W p l e room_1 s m #[Value.ref b] below meth c s.heap [] 0 0 (lw_Z below #[Value.ref b] s) (entryFrame m ([Value.ref b] : List Value).toArray 4) := by
  obtain ⟨fa, cA, D, fm, hfm, hfa, hKn, hFA⟩ := jz_start C0
  obtain ⟨hx, hb, hr, hml, hown, hts, hX, hbl, hlocks, hgv⟩ := C0
  obtain ⟨N, h1, hg, hl1, hl2⟩ := hrun fm hfm
  have hg : jx_go (jx_run (jx_fo L xs fm) N 10) 11 (jx_fo L xs fm) jm_Law_law N 0 (jx_ent jm_Law_law [.retAddr 0]) [] [] = some (some (.int 1), h1) := hg
  have C : jx_Ctx s.heap.size 0 fa cA D (jx_fo L xs fm) 11 4 "OppositeThreadsLaw" code false p room_1 s m #[Value.ref b] meth c :=
    ⟨hx, hb, hml, fun w hw => hts w (List.mem_filter.mp hw).1, hown, hKn, hFA, rfl, by decide, by decide, fun q => by cases q⟩
  have hen := jx_entL (SZ := s.heap.size) (fa := fa) jm_Law_law [.retAddr 0] (by decide)
  have hent : entryFrame m ([Value.ref b] : List Value).toArray 4 = F0 m 0 ((lg_sl ([Value.retAddr 0].map (jx_cv s.heap.size fa)) ++ List.replicate (4 - (lg_sl ([Value.retAddr 0].map (jx_cv s.heap.size fa))).length) Slot.unset).toArray) [] := by
    rw [show ([Value.ref b] : List Value).toArray = ([Value.retAddr 0].map (jx_cv s.heap.size fa)).toArray by simp [jx_cv, hfa], lg_entry_eq]
  rw [hent]
  have hR : jx_Rel s.heap.size fa cA D 4 s [] s.heap [] ((lg_sl ([Value.retAddr 0].map (jx_cv s.heap.size fa)) ++ List.replicate (4 - (lg_sl ([Value.retAddr 0].map (jx_cv s.heap.size fa))).length) Slot.unset).toArray) (jx_ent jm_Law_law [.retAddr 0]) := ⟨fun k q hq => by simp [jx_ws] at hq, va_S.rf, hen⟩
  refine jx_goW (Q := lw_Z below #[Value.ref b] s) (below := below) (e := e) (l := l) (n0 := 0) (z0 := 0) (M := jm_Law_law) (own := "OppositeThreadsLaw") (cc := code) jo_Law (fun r hr => by cases hr) jz_dec C (jx_runLe N 10) (fun cn as h v h1 q => ⟨10, rfl, fun y M' g1 g2 g3 => jx_met l N 10 cn as h v h1 q y M' g1 g2 g3⟩) (by show h1.length - 0 ≤ 600000; omega) (by show jx_sz h1 - 0 ≤ 7302250; omega) ?_ N 0 (jx_ent jm_Law_law [.retAddr 0]) [] [] s.heap [] _ hg hR (Nat.zero_le _) (Nat.zero_le _)
  intro pc L' st H locs ls i hi hd hR
  refine va_forget (fun q hq => hR.2.1.2.2 q hq) (W.widen (k := 600000) (n := 7302250) (by omega) (by omega) ?_)
  unfold jx_rets at hi
  split at hi
  · split at hi
    · rename_i w
      cases hb1 : jx_ret1 jm_Law_law.2.2.2.2.1 w with
      | false => rw [hb1] at hi; cases hi
      | true =>
        rw [hb1] at hi
        cases hi
        exact lw_ret hx hb hr hlocks (jd_k hd rfl rfl)
    · cases hi
  · split at hi
    · cases hb1 : Nat.beq jm_Law_law.2.2.2.2.1 2 <;> rw [hb1] at hi <;> cases hi
    · cases hi
  · split at hi
    · cases hb1 : Nat.beq jm_Law_law.2.2.2.2.1 3 <;> rw [hb1] at hi <;> cases hi
    · cases hb1 : Nat.beq jm_Law_law.2.2.2.2.1 3 <;> rw [hb1] at hi <;> cases hi
    · cases hi
  · split at hi
    · cases hb1 : Nat.beq jm_Law_law.2.2.2.2.1 0 <;> rw [hb1] at hi <;> cases hi
    · cases hi
  · cases hi
