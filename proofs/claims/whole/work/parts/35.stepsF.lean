/-! the instructions of the methods, one equation each (printed by wip/whole/steps.py) -/
theorem e_Law_law {F : jx_F} {lv : Nat} {h : jx_H} {f0 : Nat} : rn F lv 182 [.retAddr f0] h = ev F lv jm_Law_law 0 [.retAddr f0, jx_junk, jx_junk, jx_junk] [] h := rn_eq rfl
set_option maxRecDepth 50000 in
theorem s_Law_law_3 {F : jx_F} {lv : Nat} {h : jx_H} {f0 : Nat} {rs0 : Nat} : ev F lv jm_Law_law 3 [.retAddr f0, jx_junk, jx_junk, jx_junk] [.ref rs0] h = ev F lv jm_Law_law 4 [.retAddr f0, jx_junk, jx_junk, jx_junk] [.ref rs0, .ref rs0] h := ev_s rfl rfl rfl rfl
set_option maxRecDepth 50000 in
theorem s_Law_law_4 {F : jx_F} {lv : Nat} {h : jx_H} {f0 : Nat} {rs0 : Nat} {rs1 : Nat} (hr : jx_rcv F h 5 [.ref rs0] = true) : ev F (lv + 1) jm_Law_law 4 [.retAddr f0, jx_junk, jx_junk, jx_junk] [.ref rs0, .ref rs1] h = (rn F lv 62 [.ref rs0] h).bind fun q => ev F (lv + 1) jm_Law_law 7 [.retAddr f0, jx_junk, jx_junk, jx_junk] (q.1.toList ++ [.ref rs1]) q.2 := ev_cR rfl rfl rfl hr
set_option maxRecDepth 50000 in
theorem s_Law_law_7 {F : jx_F} {lv : Nat} {h : jx_H} {f0 : Nat} {rs0 : Nat} : ev F lv jm_Law_law 7 [.retAddr f0, jx_junk, jx_junk, jx_junk] [.ref rs0] h = ev F lv jm_Law_law 8 [.retAddr f0, .ref rs0, jx_junk, jx_junk] [] h := ev_s rfl rfl rfl rfl
set_option maxRecDepth 50000 in
theorem s_Law_law_11 {F : jx_F} {lv : Nat} {h : jx_H} {f0 : Nat} {r1 : Nat} {rs0 : Nat} : ev F lv jm_Law_law 11 [.retAddr f0, .ref r1, jx_junk, jx_junk] [.ref rs0] h = ev F lv jm_Law_law 12 [.retAddr f0, .ref r1, jx_junk, jx_junk] [.ref rs0, .ref rs0] h := ev_s rfl rfl rfl rfl
set_option maxRecDepth 50000 in
theorem s_Law_law_12 {F : jx_F} {lv : Nat} {h : jx_H} {f0 : Nat} {r1 : Nat} {rs0 : Nat} {rs1 : Nat} (hr : jx_rcv F h 6 [.ref rs0] = true) : ev F (lv + 1) jm_Law_law 12 [.retAddr f0, .ref r1, jx_junk, jx_junk] [.ref rs0, .ref rs1] h = (rn F lv 102 [.ref rs0] h).bind fun q => ev F (lv + 1) jm_Law_law 15 [.retAddr f0, .ref r1, jx_junk, jx_junk] (q.1.toList ++ [.ref rs1]) q.2 := ev_cR rfl rfl rfl hr
set_option maxRecDepth 50000 in
theorem s_Law_law_15 {F : jx_F} {lv : Nat} {h : jx_H} {f0 : Nat} {r1 : Nat} {rs0 : Nat} : ev F lv jm_Law_law 15 [.retAddr f0, .ref r1, jx_junk, jx_junk] [.ref rs0] h = ev F lv jm_Law_law 16 [.retAddr f0, .ref r1, .ref rs0, jx_junk] [] h := ev_s rfl rfl rfl rfl
set_option maxRecDepth 50000 in
theorem s_Law_law_16 {F : jx_F} {lv : Nat} {h : jx_H} {f0 : Nat} {r1 : Nat} {r2 : Nat} : ev F lv jm_Law_law 16 [.retAddr f0, .ref r1, .ref r2, jx_junk] [] h = ev F lv jm_Law_law 17 [.retAddr f0, .ref r1, .ref r2, jx_junk] [.int 0] h := ev_s rfl rfl rfl rfl
set_option maxRecDepth 50000 in
theorem s_Law_law_17 {F : jx_F} {lv : Nat} {h : jx_H} {f0 : Nat} {r1 : Nat} {r2 : Nat} {xs0 : Int32} : ev F lv jm_Law_law 17 [.retAddr f0, .ref r1, .ref r2, jx_junk] [.int xs0] h = ev F lv jm_Law_law 18 [.retAddr f0, .ref r1, .ref r2, .int xs0] [] h := ev_s rfl rfl rfl rfl
set_option maxRecDepth 50000 in
theorem s_Law_law_18 {F : jx_F} {lv : Nat} {h : jx_H} {f0 : Nat} {r1 : Nat} {r2 : Nat} {x3 : Int32} : ev F lv jm_Law_law 18 [.retAddr f0, .ref r1, .ref r2, .int x3] [] h = ev F lv jm_Law_law 19 [.retAddr f0, .ref r1, .ref r2, .int x3] [.int x3] h := ev_s rfl rfl rfl rfl
set_option maxRecDepth 50000 in
theorem s_Law_law_19 {F : jx_F} {lv : Nat} {h : jx_H} {f0 : Nat} {r1 : Nat} {r2 : Nat} {x3 : Int32} {xs0 : Int32} : ev F lv jm_Law_law 19 [.retAddr f0, .ref r1, .ref r2, .int x3] [.int xs0] h = ev F lv jm_Law_law 20 [.retAddr f0, .ref r1, .ref r2, .int x3] [.retAddr f0, .int xs0] h := ev_s rfl rfl rfl rfl
set_option maxRecDepth 50000 in
theorem s_Law_law_20 {F : jx_F} {lv : Nat} {h : jx_H} {f0 : Nat} {r1 : Nat} {r2 : Nat} {x3 : Int32} {fs0 : Nat} {xs1 : Int32} : ev F lv jm_Law_law 20 [.retAddr f0, .ref r1, .ref r2, .int x3] [.retAddr fs0, .int xs1] h = jx_lenF F.1 fs0 fun v => ev F lv jm_Law_law 21 [.retAddr f0, .ref r1, .ref r2, .int x3] [.int v, .int xs1] h := ev_lenF rfl rfl rfl rfl
set_option maxRecDepth 50000 in
theorem s_Law_law_21 {F : jx_F} {lv : Nat} {h : jx_H} {f0 : Nat} {r1 : Nat} {r2 : Nat} {x3 : Int32} {xs0 : Int32} {xs1 : Int32} : ev F lv jm_Law_law 21 [.retAddr f0, .ref r1, .ref r2, .int x3] [.int xs0, .int xs1] h = ev F lv jm_Law_law 23 [.retAddr f0, .ref r1, .ref r2, .int x3] [.int 6, .int xs0, .int xs1] h := ev_s rfl rfl rfl rfl
set_option maxRecDepth 50000 in
theorem s_Law_law_23 {F : jx_F} {lv : Nat} {h : jx_H} {f0 : Nat} {r1 : Nat} {r2 : Nat} {x3 : Int32} {xs0 : Int32} {xs1 : Int32} {xs2 : Int32} : ev F lv jm_Law_law 23 [.retAddr f0, .ref r1, .ref r2, .int x3] [.int xs0, .int xs1, .int xs2] h = ev F lv jm_Law_law 24 [.retAddr f0, .ref r1, .ref r2, .int x3] [.int (xs1 - xs0), .int xs2] h := ev_s rfl rfl rfl rfl
set_option maxRecDepth 50000 in
theorem s_Law_law_24 {F : jx_F} {lv : Nat} {h : jx_H} {f0 : Nat} {r1 : Nat} {r2 : Nat} {x3 : Int32} {xs0 : Int32} {xs1 : Int32} : ev F lv jm_Law_law 24 [.retAddr f0, .ref r1, .ref r2, .int x3] [.int xs0, .int xs1] h = if xs0 < xs1 then ev F lv jm_Law_law 1051 [.retAddr f0, .ref r1, .ref r2, .int x3] [] h else ev F lv jm_Law_law 27 [.retAddr f0, .ref r1, .ref r2, .int x3] [] h := ev_b (off := 1027) (b := jx_cmpB .gt xs1 xs0) rfl rfl rfl rfl rfl (by decide)
set_option maxRecDepth 50000 in
theorem s_Law_law_27 {F : jx_F} {lv : Nat} {h : jx_H} {f0 : Nat} {r1 : Nat} {r2 : Nat} {x3 : Int32} : ev F lv jm_Law_law 27 [.retAddr f0, .ref r1, .ref r2, .int x3] [] h = ev F lv jm_Law_law 28 [.retAddr f0, .ref r1, .ref r2, .int x3] [.retAddr f0] h := ev_s rfl rfl rfl rfl
set_option maxRecDepth 50000 in
theorem s_Law_law_28 {F : jx_F} {lv : Nat} {h : jx_H} {f0 : Nat} {r1 : Nat} {r2 : Nat} {x3 : Int32} {fs0 : Nat} : ev F lv jm_Law_law 28 [.retAddr f0, .ref r1, .ref r2, .int x3] [.retAddr fs0] h = ev F lv jm_Law_law 29 [.retAddr f0, .ref r1, .ref r2, .int x3] [.int x3, .retAddr fs0] h := ev_s rfl rfl rfl rfl
set_option maxRecDepth 50000 in
theorem s_Law_law_29 {F : jx_F} {lv : Nat} {h : jx_H} {f0 : Nat} {r1 : Nat} {r2 : Nat} {x3 : Int32} {xs0 : Int32} {fs1 : Nat} : ev F lv jm_Law_law 29 [.retAddr f0, .ref r1, .ref r2, .int x3] [.int xs0, .retAddr fs1] h = jx_gi F.1 0 fs1 xs0 fun v => ev F lv jm_Law_law 30 [.retAddr f0, .ref r1, .ref r2, .int x3] [.int v] h := ev_gi rfl rfl rfl rfl
set_option maxRecDepth 50000 in
theorem s_Law_law_30 {F : jx_F} {lv : Nat} {h : jx_H} {f0 : Nat} {r1 : Nat} {r2 : Nat} {x3 : Int32} {xs0 : Int32} : ev F lv jm_Law_law 30 [.retAddr f0, .ref r1, .ref r2, .int x3] [.int xs0] h = ev F lv jm_Law_law 32 [.retAddr f0, .ref r1, .ref r2, .int x3] [.int 31, .int xs0] h := ev_s rfl rfl rfl rfl
set_option maxRecDepth 50000 in
theorem s_Law_law_32 {F : jx_F} {lv : Nat} {h : jx_H} {f0 : Nat} {r1 : Nat} {r2 : Nat} {x3 : Int32} {xs0 : Int32} {xs1 : Int32} : ev F lv jm_Law_law 32 [.retAddr f0, .ref r1, .ref r2, .int x3] [.int xs0, .int xs1] h = ev F lv jm_Law_law 33 [.retAddr f0, .ref r1, .ref r2, .int x3] [.int (xs1 &&& xs0)] h := ev_s rfl rfl rfl rfl
set_option maxRecDepth 50000 in
theorem s_Law_law_33 {F : jx_F} {lv : Nat} {h : jx_H} {f0 : Nat} {r1 : Nat} {r2 : Nat} {x3 : Int32} {xs0 : Int32} : ev F lv jm_Law_law 33 [.retAddr f0, .ref r1, .ref r2, .int x3] [.int xs0] h = if xs0 = 0 then ev F lv jm_Law_law 172 [.retAddr f0, .ref r1, .ref r2, .int x3] [] h else (if xs0 = 1 then ev F lv jm_Law_law 195 [.retAddr f0, .ref r1, .ref r2, .int x3] [] h else (if xs0 = 2 then ev F lv jm_Law_law 208 [.retAddr f0, .ref r1, .ref r2, .int x3] [] h else (if xs0 = 3 then ev F lv jm_Law_law 221 [.retAddr f0, .ref r1, .ref r2, .int x3] [] h else (if xs0 = 4 then ev F lv jm_Law_law 234 [.retAddr f0, .ref r1, .ref r2, .int x3] [] h else (if xs0 = 5 then ev F lv jm_Law_law 267 [.retAddr f0, .ref r1, .ref r2, .int x3] [] h else (if xs0 = 6 then ev F lv jm_Law_law 300 [.retAddr f0, .ref r1, .ref r2, .int x3] [] h else (if xs0 = 7 then ev F lv jm_Law_law 323 [.retAddr f0, .ref r1, .ref r2, .int x3] [] h else (if xs0 = 8 then ev F lv jm_Law_law 356 [.retAddr f0, .ref r1, .ref r2, .int x3] [] h else (if xs0 = 9 then ev F lv jm_Law_law 389 [.retAddr f0, .ref r1, .ref r2, .int x3] [] h else (if xs0 = 10 then ev F lv jm_Law_law 402 [.retAddr f0, .ref r1, .ref r2, .int x3] [] h else (if xs0 = 11 then ev F lv jm_Law_law 425 [.retAddr f0, .ref r1, .ref r2, .int x3] [] h else (if xs0 = 12 then ev F lv jm_Law_law 448 [.retAddr f0, .ref r1, .ref r2, .int x3] [] h else (if xs0 = 13 then ev F lv jm_Law_law 481 [.retAddr f0, .ref r1, .ref r2, .int x3] [] h else (if xs0 = 14 then ev F lv jm_Law_law 504 [.retAddr f0, .ref r1, .ref r2, .int x3] [] h else (if xs0 = 15 then ev F lv jm_Law_law 517 [.retAddr f0, .ref r1, .ref r2, .int x3] [] h else (if xs0 = 16 then ev F lv jm_Law_law 550 [.retAddr f0, .ref r1, .ref r2, .int x3] [] h else (if xs0 = 17 then ev F lv jm_Law_law 573 [.retAddr f0, .ref r1, .ref r2, .int x3] [] h else (if xs0 = 18 then ev F lv jm_Law_law 616 [.retAddr f0, .ref r1, .ref r2, .int x3] [] h else (if xs0 = 19 then ev F lv jm_Law_law 659 [.retAddr f0, .ref r1, .ref r2, .int x3] [] h else (if xs0 = 20 then ev F lv jm_Law_law 702 [.retAddr f0, .ref r1, .ref r2, .int x3] [] h else (if xs0 = 21 then ev F lv jm_Law_law 715 [.retAddr f0, .ref r1, .ref r2, .int x3] [] h else (if xs0 = 22 then ev F lv jm_Law_law 728 [.retAddr f0, .ref r1, .ref r2, .int x3] [] h else (if xs0 = 23 then ev F lv jm_Law_law 741 [.retAddr f0, .ref r1, .ref r2, .int x3] [] h else (if xs0 = 24 then ev F lv jm_Law_law 784 [.retAddr f0, .ref r1, .ref r2, .int x3] [] h else (if xs0 = 25 then ev F lv jm_Law_law 837 [.retAddr f0, .ref r1, .ref r2, .int x3] [] h else (if xs0 = 26 then ev F lv jm_Law_law 880 [.retAddr f0, .ref r1, .ref r2, .int x3] [] h else (if xs0 = 27 then ev F lv jm_Law_law 943 [.retAddr f0, .ref r1, .ref r2, .int x3] [] h else (if xs0 = 28 then ev F lv jm_Law_law 976 [.retAddr f0, .ref r1, .ref r2, .int x3] [] h else (if xs0 = 29 then ev F lv jm_Law_law 999 [.retAddr f0, .ref r1, .ref r2, .int x3] [] h else (if xs0 = 30 then ev F lv jm_Law_law 1022 [.retAddr f0, .ref r1, .ref r2, .int x3] [] h else (ev F lv jm_Law_law 1045 [.retAddr f0, .ref r1, .ref r2, .int x3] [] h))))))))))))))))))))))))))))))) := by
  rw [ev_ins rfl rfl rfl]
  by_cases h0 : xs0 = 0
  · subst h0; rw [if_pos rfl]; rfl
  rw [if_neg h0]
  by_cases h1 : xs0 = 1
  · subst h1; rw [if_pos rfl]; rfl
  rw [if_neg h1]
  by_cases h2 : xs0 = 2
  · subst h2; rw [if_pos rfl]; rfl
  rw [if_neg h2]
  by_cases h3 : xs0 = 3
  · subst h3; rw [if_pos rfl]; rfl
  rw [if_neg h3]
  by_cases h4 : xs0 = 4
  · subst h4; rw [if_pos rfl]; rfl
  rw [if_neg h4]
  by_cases h5 : xs0 = 5
  · subst h5; rw [if_pos rfl]; rfl
  rw [if_neg h5]
  by_cases h6 : xs0 = 6
  · subst h6; rw [if_pos rfl]; rfl
  rw [if_neg h6]
  by_cases h7 : xs0 = 7
  · subst h7; rw [if_pos rfl]; rfl
  rw [if_neg h7]
  by_cases h8 : xs0 = 8
  · subst h8; rw [if_pos rfl]; rfl
  rw [if_neg h8]
  by_cases h9 : xs0 = 9
  · subst h9; rw [if_pos rfl]; rfl
  rw [if_neg h9]
  by_cases h10 : xs0 = 10
  · subst h10; rw [if_pos rfl]; rfl
  rw [if_neg h10]
  by_cases h11 : xs0 = 11
  · subst h11; rw [if_pos rfl]; rfl
  rw [if_neg h11]
  by_cases h12 : xs0 = 12
  · subst h12; rw [if_pos rfl]; rfl
  rw [if_neg h12]
  by_cases h13 : xs0 = 13
  · subst h13; rw [if_pos rfl]; rfl
  rw [if_neg h13]
  by_cases h14 : xs0 = 14
  · subst h14; rw [if_pos rfl]; rfl
  rw [if_neg h14]
  by_cases h15 : xs0 = 15
  · subst h15; rw [if_pos rfl]; rfl
  rw [if_neg h15]
  by_cases h16 : xs0 = 16
  · subst h16; rw [if_pos rfl]; rfl
  rw [if_neg h16]
  by_cases h17 : xs0 = 17
  · subst h17; rw [if_pos rfl]; rfl
  rw [if_neg h17]
  by_cases h18 : xs0 = 18
  · subst h18; rw [if_pos rfl]; rfl
  rw [if_neg h18]
  by_cases h19 : xs0 = 19
  · subst h19; rw [if_pos rfl]; rfl
  rw [if_neg h19]
  by_cases h20 : xs0 = 20
  · subst h20; rw [if_pos rfl]; rfl
  rw [if_neg h20]
  by_cases h21 : xs0 = 21
  · subst h21; rw [if_pos rfl]; rfl
  rw [if_neg h21]
  by_cases h22 : xs0 = 22
  · subst h22; rw [if_pos rfl]; rfl
  rw [if_neg h22]
  by_cases h23 : xs0 = 23
  · subst h23; rw [if_pos rfl]; rfl
  rw [if_neg h23]
  by_cases h24 : xs0 = 24
  · subst h24; rw [if_pos rfl]; rfl
  rw [if_neg h24]
  by_cases h25 : xs0 = 25
  · subst h25; rw [if_pos rfl]; rfl
  rw [if_neg h25]
  by_cases h26 : xs0 = 26
  · subst h26; rw [if_pos rfl]; rfl
  rw [if_neg h26]
  by_cases h27 : xs0 = 27
  · subst h27; rw [if_pos rfl]; rfl
  rw [if_neg h27]
  by_cases h28 : xs0 = 28
  · subst h28; rw [if_pos rfl]; rfl
  rw [if_neg h28]
  by_cases h29 : xs0 = 29
  · subst h29; rw [if_pos rfl]; rfl
  rw [if_neg h29]
  by_cases h30 : xs0 = 30
  · subst h30; rw [if_pos rfl]; rfl
  rw [if_neg h30]
  have hsw : jx_sw 1012 0 30 #[139, 162, 175, 188, 201, 234, 267, 290, 323, 356, 369, 392, 415, 448, 471, 484, 517, 540, 583, 626, 669, 682, 695, 708, 751, 804, 847, 910, 943, 966, 989] xs0.toInt = some 1012 := by
    unfold jx_sw
    rw [if_pos]
    have g0 : xs0.toInt ≠ 0 := fun q => h0 (Int32.toInt_inj.mp q)
    have g1 : xs0.toInt ≠ 1 := fun q => h1 (Int32.toInt_inj.mp q)
    have g2 : xs0.toInt ≠ 2 := fun q => h2 (Int32.toInt_inj.mp q)
    have g3 : xs0.toInt ≠ 3 := fun q => h3 (Int32.toInt_inj.mp q)
    have g4 : xs0.toInt ≠ 4 := fun q => h4 (Int32.toInt_inj.mp q)
    have g5 : xs0.toInt ≠ 5 := fun q => h5 (Int32.toInt_inj.mp q)
    have g6 : xs0.toInt ≠ 6 := fun q => h6 (Int32.toInt_inj.mp q)
    have g7 : xs0.toInt ≠ 7 := fun q => h7 (Int32.toInt_inj.mp q)
    have g8 : xs0.toInt ≠ 8 := fun q => h8 (Int32.toInt_inj.mp q)
    have g9 : xs0.toInt ≠ 9 := fun q => h9 (Int32.toInt_inj.mp q)
    have g10 : xs0.toInt ≠ 10 := fun q => h10 (Int32.toInt_inj.mp q)
    have g11 : xs0.toInt ≠ 11 := fun q => h11 (Int32.toInt_inj.mp q)
    have g12 : xs0.toInt ≠ 12 := fun q => h12 (Int32.toInt_inj.mp q)
    have g13 : xs0.toInt ≠ 13 := fun q => h13 (Int32.toInt_inj.mp q)
    have g14 : xs0.toInt ≠ 14 := fun q => h14 (Int32.toInt_inj.mp q)
    have g15 : xs0.toInt ≠ 15 := fun q => h15 (Int32.toInt_inj.mp q)
    have g16 : xs0.toInt ≠ 16 := fun q => h16 (Int32.toInt_inj.mp q)
    have g17 : xs0.toInt ≠ 17 := fun q => h17 (Int32.toInt_inj.mp q)
    have g18 : xs0.toInt ≠ 18 := fun q => h18 (Int32.toInt_inj.mp q)
    have g19 : xs0.toInt ≠ 19 := fun q => h19 (Int32.toInt_inj.mp q)
    have g20 : xs0.toInt ≠ 20 := fun q => h20 (Int32.toInt_inj.mp q)
    have g21 : xs0.toInt ≠ 21 := fun q => h21 (Int32.toInt_inj.mp q)
    have g22 : xs0.toInt ≠ 22 := fun q => h22 (Int32.toInt_inj.mp q)
    have g23 : xs0.toInt ≠ 23 := fun q => h23 (Int32.toInt_inj.mp q)
    have g24 : xs0.toInt ≠ 24 := fun q => h24 (Int32.toInt_inj.mp q)
    have g25 : xs0.toInt ≠ 25 := fun q => h25 (Int32.toInt_inj.mp q)
    have g26 : xs0.toInt ≠ 26 := fun q => h26 (Int32.toInt_inj.mp q)
    have g27 : xs0.toInt ≠ 27 := fun q => h27 (Int32.toInt_inj.mp q)
    have g28 : xs0.toInt ≠ 28 := fun q => h28 (Int32.toInt_inj.mp q)
    have g29 : xs0.toInt ≠ 29 := fun q => h29 (Int32.toInt_inj.mp q)
    have g30 : xs0.toInt ≠ 30 := fun q => h30 (Int32.toInt_inj.mp q)
    omega
  show jx_cont _ _ _ (jx_swk (jx_sw 1012 0 30 #[139, 162, 175, 188, 201, 234, 267, 290, 323, 356, 369, 392, 415, 448, 471, 484, 517, 540, 583, 626, 669, 682, 695, 708, 751, 804, 847, 910, 943, 966, 989] xs0.toInt) _) = _
  rw [hsw]; rfl
set_option maxRecDepth 50000 in
theorem s_Law_law_172 {F : jx_F} {lv : Nat} {h : jx_H} {f0 : Nat} {r1 : Nat} {r2 : Nat} {x3 : Int32} : ev F lv jm_Law_law 172 [.retAddr f0, .ref r1, .ref r2, .int x3] [] h = ev F lv jm_Law_law 173 [.retAddr f0, .ref r1, .ref r2, .int x3] [.ref r1] h := ev_s rfl rfl rfl rfl
set_option maxRecDepth 50000 in
theorem s_Law_law_173 {F : jx_F} {lv : Nat} {h : jx_H} {f0 : Nat} {r1 : Nat} {r2 : Nat} {x3 : Int32} {rs0 : Nat} : ev F lv jm_Law_law 173 [.retAddr f0, .ref r1, .ref r2, .int x3] [.ref rs0] h = ev F lv jm_Law_law 174 [.retAddr f0, .ref r1, .ref r2, .int x3] [.retAddr f0, .ref rs0] h := ev_s rfl rfl rfl rfl
set_option maxRecDepth 50000 in
theorem s_Law_law_174 {F : jx_F} {lv : Nat} {h : jx_H} {f0 : Nat} {r1 : Nat} {r2 : Nat} {x3 : Int32} {fs0 : Nat} {rs1 : Nat} : ev F lv jm_Law_law 174 [.retAddr f0, .ref r1, .ref r2, .int x3] [.retAddr fs0, .ref rs1] h = ev F lv jm_Law_law 175 [.retAddr f0, .ref r1, .ref r2, .int x3] [.int x3, .retAddr fs0, .ref rs1] h := ev_s rfl rfl rfl rfl
set_option maxRecDepth 50000 in
theorem s_Law_law_175 {F : jx_F} {lv : Nat} {h : jx_H} {f0 : Nat} {r1 : Nat} {r2 : Nat} {x3 : Int32} {xs0 : Int32} {fs1 : Nat} {rs2 : Nat} : ev F lv jm_Law_law 175 [.retAddr f0, .ref r1, .ref r2, .int x3] [.int xs0, .retAddr fs1, .ref rs2] h = ev F lv jm_Law_law 176 [.retAddr f0, .ref r1, .ref r2, .int x3] [.int 1, .int xs0, .retAddr fs1, .ref rs2] h := ev_s rfl rfl rfl rfl
set_option maxRecDepth 50000 in
theorem s_Law_law_176 {F : jx_F} {lv : Nat} {h : jx_H} {f0 : Nat} {r1 : Nat} {r2 : Nat} {x3 : Int32} {xs0 : Int32} {xs1 : Int32} {fs2 : Nat} {rs3 : Nat} : ev F lv jm_Law_law 176 [.retAddr f0, .ref r1, .ref r2, .int x3] [.int xs0, .int xs1, .retAddr fs2, .ref rs3] h = ev F lv jm_Law_law 177 [.retAddr f0, .ref r1, .ref r2, .int x3] [.int (xs1 + xs0), .retAddr fs2, .ref rs3] h := ev_s rfl rfl rfl rfl
set_option maxRecDepth 50000 in
theorem s_Law_law_177 {F : jx_F} {lv : Nat} {h : jx_H} {f0 : Nat} {r1 : Nat} {r2 : Nat} {x3 : Int32} {xs0 : Int32} {fs1 : Nat} {rs2 : Nat} : ev F lv jm_Law_law 177 [.retAddr f0, .ref r1, .ref r2, .int x3] [.int xs0, .retAddr fs1, .ref rs2] h = jx_gi F.1 0 fs1 xs0 fun v => ev F lv jm_Law_law 178 [.retAddr f0, .ref r1, .ref r2, .int x3] [.int v, .ref rs2] h := ev_gi rfl rfl rfl rfl
set_option maxRecDepth 50000 in
theorem s_Law_law_178 {F : jx_F} {lv : Nat} {h : jx_H} {f0 : Nat} {r1 : Nat} {r2 : Nat} {x3 : Int32} {xs0 : Int32} {rs1 : Nat} (hr : jx_rcv F h 5 [.ref rs1, .int xs0] = true) : ev F (lv + 1) jm_Law_law 178 [.retAddr f0, .ref r1, .ref r2, .int x3] [.int xs0, .ref rs1] h = (rn F lv 63 [.ref rs1, .int xs0] h).bind fun q => ev F (lv + 1) jm_Law_law 181 [.retAddr f0, .ref r1, .ref r2, .int x3] (q.1.toList ++ []) q.2 := ev_cR rfl rfl rfl hr
set_option maxRecDepth 50000 in
theorem s_Law_law_181 {F : jx_F} {lv : Nat} {h : jx_H} {f0 : Nat} {r1 : Nat} {r2 : Nat} {x3 : Int32} {xs0 : Int32} : ev F lv jm_Law_law 181 [.retAddr f0, .ref r1, .ref r2, .int x3] [.int xs0] h = ev F lv jm_Law_law 182 [.retAddr f0, .ref r1, .ref r2, .int x3] [.ref r2, .int xs0] h := ev_s rfl rfl rfl rfl
set_option maxRecDepth 50000 in
theorem s_Law_law_182 {F : jx_F} {lv : Nat} {h : jx_H} {f0 : Nat} {r1 : Nat} {r2 : Nat} {x3 : Int32} {rs0 : Nat} {xs1 : Int32} : ev F lv jm_Law_law 182 [.retAddr f0, .ref r1, .ref r2, .int x3] [.ref rs0, .int xs1] h = ev F lv jm_Law_law 183 [.retAddr f0, .ref r1, .ref r2, .int x3] [.retAddr f0, .ref rs0, .int xs1] h := ev_s rfl rfl rfl rfl
set_option maxRecDepth 50000 in
theorem s_Law_law_183 {F : jx_F} {lv : Nat} {h : jx_H} {f0 : Nat} {r1 : Nat} {r2 : Nat} {x3 : Int32} {fs0 : Nat} {rs1 : Nat} {xs2 : Int32} : ev F lv jm_Law_law 183 [.retAddr f0, .ref r1, .ref r2, .int x3] [.retAddr fs0, .ref rs1, .int xs2] h = ev F lv jm_Law_law 184 [.retAddr f0, .ref r1, .ref r2, .int x3] [.int x3, .retAddr fs0, .ref rs1, .int xs2] h := ev_s rfl rfl rfl rfl
set_option maxRecDepth 50000 in
theorem s_Law_law_184 {F : jx_F} {lv : Nat} {h : jx_H} {f0 : Nat} {r1 : Nat} {r2 : Nat} {x3 : Int32} {xs0 : Int32} {fs1 : Nat} {rs2 : Nat} {xs3 : Int32} : ev F lv jm_Law_law 184 [.retAddr f0, .ref r1, .ref r2, .int x3] [.int xs0, .retAddr fs1, .ref rs2, .int xs3] h = ev F lv jm_Law_law 185 [.retAddr f0, .ref r1, .ref r2, .int x3] [.int 1, .int xs0, .retAddr fs1, .ref rs2, .int xs3] h := ev_s rfl rfl rfl rfl
set_option maxRecDepth 50000 in
theorem s_Law_law_185 {F : jx_F} {lv : Nat} {h : jx_H} {f0 : Nat} {r1 : Nat} {r2 : Nat} {x3 : Int32} {xs0 : Int32} {xs1 : Int32} {fs2 : Nat} {rs3 : Nat} {xs4 : Int32} : ev F lv jm_Law_law 185 [.retAddr f0, .ref r1, .ref r2, .int x3] [.int xs0, .int xs1, .retAddr fs2, .ref rs3, .int xs4] h = ev F lv jm_Law_law 186 [.retAddr f0, .ref r1, .ref r2, .int x3] [.int (xs1 + xs0), .retAddr fs2, .ref rs3, .int xs4] h := ev_s rfl rfl rfl rfl
set_option maxRecDepth 50000 in
theorem s_Law_law_186 {F : jx_F} {lv : Nat} {h : jx_H} {f0 : Nat} {r1 : Nat} {r2 : Nat} {x3 : Int32} {xs0 : Int32} {fs1 : Nat} {rs2 : Nat} {xs3 : Int32} : ev F lv jm_Law_law 186 [.retAddr f0, .ref r1, .ref r2, .int x3] [.int xs0, .retAddr fs1, .ref rs2, .int xs3] h = jx_gi F.1 0 fs1 xs0 fun v => ev F lv jm_Law_law 187 [.retAddr f0, .ref r1, .ref r2, .int x3] [.int v, .ref rs2, .int xs3] h := ev_gi rfl rfl rfl rfl
set_option maxRecDepth 50000 in
theorem s_Law_law_187 {F : jx_F} {lv : Nat} {h : jx_H} {f0 : Nat} {r1 : Nat} {r2 : Nat} {x3 : Int32} {xs0 : Int32} {rs1 : Nat} {xs2 : Int32} (hr : jx_rcv F h 6 [.ref rs1, .int xs0] = true) : ev F (lv + 1) jm_Law_law 187 [.retAddr f0, .ref r1, .ref r2, .int x3] [.int xs0, .ref rs1, .int xs2] h = (rn F lv 107 [.ref rs1, .int xs0] h).bind fun q => ev F (lv + 1) jm_Law_law 190 [.retAddr f0, .ref r1, .ref r2, .int x3] (q.1.toList ++ [.int xs2]) q.2 := ev_cR rfl rfl rfl hr
set_option maxRecDepth 50000 in
theorem s_Law_law_190 {F : jx_F} {lv : Nat} {h : jx_H} {f0 : Nat} {r1 : Nat} {r2 : Nat} {x3 : Int32} {xs0 : Int32} {xs1 : Int32} : ev F lv jm_Law_law 190 [.retAddr f0, .ref r1, .ref r2, .int x3] [.int xs0, .int xs1] h = if xs1 = xs0 then ev F lv jm_Law_law 1045 [.retAddr f0, .ref r1, .ref r2, .int x3] [] h else ev F lv jm_Law_law 193 [.retAddr f0, .ref r1, .ref r2, .int x3] [] h := ev_b (off := 855) (b := jx_cmpB .eq xs1 xs0) rfl rfl rfl rfl rfl (by decide)
set_option maxRecDepth 50000 in
theorem s_Law_law_193 {F : jx_F} {lv : Nat} {h : jx_H} {f0 : Nat} {r1 : Nat} {r2 : Nat} {x3 : Int32} : ev F lv jm_Law_law 193 [.retAddr f0, .ref r1, .ref r2, .int x3] [] h = ev F lv jm_Law_law 194 [.retAddr f0, .ref r1, .ref r2, .int x3] [.int 0] h := ev_s rfl rfl rfl rfl
set_option maxRecDepth 50000 in
theorem s_Law_law_194 {F : jx_F} {lv : Nat} {h : jx_H} {f0 : Nat} {r1 : Nat} {r2 : Nat} {x3 : Int32} {xs0 : Int32} (hb : jx_ret1 4 xs0 = true) : ev F lv jm_Law_law 194 [.retAddr f0, .ref r1, .ref r2, .int x3] [.int xs0] h = some (some (.int xs0), h) := ev_rB rfl rfl hb
set_option maxRecDepth 50000 in
theorem s_Law_law_195 {F : jx_F} {lv : Nat} {h : jx_H} {f0 : Nat} {r1 : Nat} {r2 : Nat} {x3 : Int32} : ev F lv jm_Law_law 195 [.retAddr f0, .ref r1, .ref r2, .int x3] [] h = ev F lv jm_Law_law 196 [.retAddr f0, .ref r1, .ref r2, .int x3] [.ref r1] h := ev_s rfl rfl rfl rfl
set_option maxRecDepth 50000 in
theorem s_Law_law_196 {F : jx_F} {lv : Nat} {h : jx_H} {f0 : Nat} {r1 : Nat} {r2 : Nat} {x3 : Int32} {rs0 : Nat} (hr : jx_rcv F h 5 [.ref rs0] = true) : ev F (lv + 1) jm_Law_law 196 [.retAddr f0, .ref r1, .ref r2, .int x3] [.ref rs0] h = (rn F lv 64 [.ref rs0] h).bind fun q => ev F (lv + 1) jm_Law_law 199 [.retAddr f0, .ref r1, .ref r2, .int x3] (q.1.toList ++ []) q.2 := ev_cR rfl rfl rfl hr
set_option maxRecDepth 50000 in
theorem s_Law_law_199 {F : jx_F} {lv : Nat} {h : jx_H} {f0 : Nat} {r1 : Nat} {r2 : Nat} {x3 : Int32} {xs0 : Int32} : ev F lv jm_Law_law 199 [.retAddr f0, .ref r1, .ref r2, .int x3] [.int xs0] h = ev F lv jm_Law_law 200 [.retAddr f0, .ref r1, .ref r2, .int x3] [.ref r2, .int xs0] h := ev_s rfl rfl rfl rfl
set_option maxRecDepth 50000 in
theorem s_Law_law_200 {F : jx_F} {lv : Nat} {h : jx_H} {f0 : Nat} {r1 : Nat} {r2 : Nat} {x3 : Int32} {rs0 : Nat} {xs1 : Int32} (hr : jx_rcv F h 6 [.ref rs0] = true) : ev F (lv + 1) jm_Law_law 200 [.retAddr f0, .ref r1, .ref r2, .int x3] [.ref rs0, .int xs1] h = (rn F lv 108 [.ref rs0] h).bind fun q => ev F (lv + 1) jm_Law_law 203 [.retAddr f0, .ref r1, .ref r2, .int x3] (q.1.toList ++ [.int xs1]) q.2 := ev_cR rfl rfl rfl hr
set_option maxRecDepth 50000 in
theorem s_Law_law_203 {F : jx_F} {lv : Nat} {h : jx_H} {f0 : Nat} {r1 : Nat} {r2 : Nat} {x3 : Int32} {xs0 : Int32} {xs1 : Int32} : ev F lv jm_Law_law 203 [.retAddr f0, .ref r1, .ref r2, .int x3] [.int xs0, .int xs1] h = if xs1 = xs0 then ev F lv jm_Law_law 1045 [.retAddr f0, .ref r1, .ref r2, .int x3] [] h else ev F lv jm_Law_law 206 [.retAddr f0, .ref r1, .ref r2, .int x3] [] h := ev_b (off := 842) (b := jx_cmpB .eq xs1 xs0) rfl rfl rfl rfl rfl (by decide)
set_option maxRecDepth 50000 in
theorem s_Law_law_206 {F : jx_F} {lv : Nat} {h : jx_H} {f0 : Nat} {r1 : Nat} {r2 : Nat} {x3 : Int32} : ev F lv jm_Law_law 206 [.retAddr f0, .ref r1, .ref r2, .int x3] [] h = ev F lv jm_Law_law 207 [.retAddr f0, .ref r1, .ref r2, .int x3] [.int 0] h := ev_s rfl rfl rfl rfl
set_option maxRecDepth 50000 in
theorem s_Law_law_207 {F : jx_F} {lv : Nat} {h : jx_H} {f0 : Nat} {r1 : Nat} {r2 : Nat} {x3 : Int32} {xs0 : Int32} (hb : jx_ret1 4 xs0 = true) : ev F lv jm_Law_law 207 [.retAddr f0, .ref r1, .ref r2, .int x3] [.int xs0] h = some (some (.int xs0), h) := ev_rB rfl rfl hb
set_option maxRecDepth 50000 in
theorem s_Law_law_208 {F : jx_F} {lv : Nat} {h : jx_H} {f0 : Nat} {r1 : Nat} {r2 : Nat} {x3 : Int32} : ev F lv jm_Law_law 208 [.retAddr f0, .ref r1, .ref r2, .int x3] [] h = ev F lv jm_Law_law 209 [.retAddr f0, .ref r1, .ref r2, .int x3] [.ref r1] h := ev_s rfl rfl rfl rfl
set_option maxRecDepth 50000 in
theorem s_Law_law_209 {F : jx_F} {lv : Nat} {h : jx_H} {f0 : Nat} {r1 : Nat} {r2 : Nat} {x3 : Int32} {rs0 : Nat} (hr : jx_rcv F h 5 [.ref rs0] = true) : ev F (lv + 1) jm_Law_law 209 [.retAddr f0, .ref r1, .ref r2, .int x3] [.ref rs0] h = (rn F lv 65 [.ref rs0] h).bind fun q => ev F (lv + 1) jm_Law_law 212 [.retAddr f0, .ref r1, .ref r2, .int x3] (q.1.toList ++ []) q.2 := ev_cR rfl rfl rfl hr
set_option maxRecDepth 50000 in
theorem s_Law_law_212 {F : jx_F} {lv : Nat} {h : jx_H} {f0 : Nat} {r1 : Nat} {r2 : Nat} {x3 : Int32} {xs0 : Int32} : ev F lv jm_Law_law 212 [.retAddr f0, .ref r1, .ref r2, .int x3] [.int xs0] h = ev F lv jm_Law_law 213 [.retAddr f0, .ref r1, .ref r2, .int x3] [.ref r2, .int xs0] h := ev_s rfl rfl rfl rfl
set_option maxRecDepth 50000 in
theorem s_Law_law_213 {F : jx_F} {lv : Nat} {h : jx_H} {f0 : Nat} {r1 : Nat} {r2 : Nat} {x3 : Int32} {rs0 : Nat} {xs1 : Int32} (hr : jx_rcv F h 6 [.ref rs0] = true) : ev F (lv + 1) jm_Law_law 213 [.retAddr f0, .ref r1, .ref r2, .int x3] [.ref rs0, .int xs1] h = (rn F lv 121 [.ref rs0] h).bind fun q => ev F (lv + 1) jm_Law_law 216 [.retAddr f0, .ref r1, .ref r2, .int x3] (q.1.toList ++ [.int xs1]) q.2 := ev_cR rfl rfl rfl hr
set_option maxRecDepth 50000 in
theorem s_Law_law_216 {F : jx_F} {lv : Nat} {h : jx_H} {f0 : Nat} {r1 : Nat} {r2 : Nat} {x3 : Int32} {xs0 : Int32} {xs1 : Int32} : ev F lv jm_Law_law 216 [.retAddr f0, .ref r1, .ref r2, .int x3] [.int xs0, .int xs1] h = if xs1 = xs0 then ev F lv jm_Law_law 1045 [.retAddr f0, .ref r1, .ref r2, .int x3] [] h else ev F lv jm_Law_law 219 [.retAddr f0, .ref r1, .ref r2, .int x3] [] h := ev_b (off := 829) (b := jx_cmpB .eq xs1 xs0) rfl rfl rfl rfl rfl (by decide)
set_option maxRecDepth 50000 in
theorem s_Law_law_219 {F : jx_F} {lv : Nat} {h : jx_H} {f0 : Nat} {r1 : Nat} {r2 : Nat} {x3 : Int32} : ev F lv jm_Law_law 219 [.retAddr f0, .ref r1, .ref r2, .int x3] [] h = ev F lv jm_Law_law 220 [.retAddr f0, .ref r1, .ref r2, .int x3] [.int 0] h := ev_s rfl rfl rfl rfl
set_option maxRecDepth 50000 in
theorem s_Law_law_220 {F : jx_F} {lv : Nat} {h : jx_H} {f0 : Nat} {r1 : Nat} {r2 : Nat} {x3 : Int32} {xs0 : Int32} (hb : jx_ret1 4 xs0 = true) : ev F lv jm_Law_law 220 [.retAddr f0, .ref r1, .ref r2, .int x3] [.int xs0] h = some (some (.int xs0), h) := ev_rB rfl rfl hb
set_option maxRecDepth 50000 in
theorem s_Law_law_221 {F : jx_F} {lv : Nat} {h : jx_H} {f0 : Nat} {r1 : Nat} {r2 : Nat} {x3 : Int32} : ev F lv jm_Law_law 221 [.retAddr f0, .ref r1, .ref r2, .int x3] [] h = ev F lv jm_Law_law 222 [.retAddr f0, .ref r1, .ref r2, .int x3] [.ref r1] h := ev_s rfl rfl rfl rfl
set_option maxRecDepth 50000 in
theorem s_Law_law_222 {F : jx_F} {lv : Nat} {h : jx_H} {f0 : Nat} {r1 : Nat} {r2 : Nat} {x3 : Int32} {rs0 : Nat} (hr : jx_rcv F h 5 [.ref rs0] = true) : ev F (lv + 1) jm_Law_law 222 [.retAddr f0, .ref r1, .ref r2, .int x3] [.ref rs0] h = (rn F lv 66 [.ref rs0] h).bind fun q => ev F (lv + 1) jm_Law_law 225 [.retAddr f0, .ref r1, .ref r2, .int x3] (q.1.toList ++ []) q.2 := ev_cR rfl rfl rfl hr
set_option maxRecDepth 50000 in
theorem s_Law_law_225 {F : jx_F} {lv : Nat} {h : jx_H} {f0 : Nat} {r1 : Nat} {r2 : Nat} {x3 : Int32} {xs0 : Int32} : ev F lv jm_Law_law 225 [.retAddr f0, .ref r1, .ref r2, .int x3] [.int xs0] h = ev F lv jm_Law_law 226 [.retAddr f0, .ref r1, .ref r2, .int x3] [.ref r2, .int xs0] h := ev_s rfl rfl rfl rfl
set_option maxRecDepth 50000 in
theorem s_Law_law_226 {F : jx_F} {lv : Nat} {h : jx_H} {f0 : Nat} {r1 : Nat} {r2 : Nat} {x3 : Int32} {rs0 : Nat} {xs1 : Int32} (hr : jx_rcv F h 6 [.ref rs0] = true) : ev F (lv + 1) jm_Law_law 226 [.retAddr f0, .ref r1, .ref r2, .int x3] [.ref rs0, .int xs1] h = (rn F lv 123 [.ref rs0] h).bind fun q => ev F (lv + 1) jm_Law_law 229 [.retAddr f0, .ref r1, .ref r2, .int x3] (q.1.toList ++ [.int xs1]) q.2 := ev_cR rfl rfl rfl hr
set_option maxRecDepth 50000 in
theorem s_Law_law_229 {F : jx_F} {lv : Nat} {h : jx_H} {f0 : Nat} {r1 : Nat} {r2 : Nat} {x3 : Int32} {xs0 : Int32} {xs1 : Int32} : ev F lv jm_Law_law 229 [.retAddr f0, .ref r1, .ref r2, .int x3] [.int xs0, .int xs1] h = if xs1 = xs0 then ev F lv jm_Law_law 1045 [.retAddr f0, .ref r1, .ref r2, .int x3] [] h else ev F lv jm_Law_law 232 [.retAddr f0, .ref r1, .ref r2, .int x3] [] h := ev_b (off := 816) (b := jx_cmpB .eq xs1 xs0) rfl rfl rfl rfl rfl (by decide)
set_option maxRecDepth 50000 in
theorem s_Law_law_232 {F : jx_F} {lv : Nat} {h : jx_H} {f0 : Nat} {r1 : Nat} {r2 : Nat} {x3 : Int32} : ev F lv jm_Law_law 232 [.retAddr f0, .ref r1, .ref r2, .int x3] [] h = ev F lv jm_Law_law 233 [.retAddr f0, .ref r1, .ref r2, .int x3] [.int 0] h := ev_s rfl rfl rfl rfl
set_option maxRecDepth 50000 in
theorem s_Law_law_233 {F : jx_F} {lv : Nat} {h : jx_H} {f0 : Nat} {r1 : Nat} {r2 : Nat} {x3 : Int32} {xs0 : Int32} (hb : jx_ret1 4 xs0 = true) : ev F lv jm_Law_law 233 [.retAddr f0, .ref r1, .ref r2, .int x3] [.int xs0] h = some (some (.int xs0), h) := ev_rB rfl rfl hb
set_option maxRecDepth 50000 in
theorem s_Law_law_234 {F : jx_F} {lv : Nat} {h : jx_H} {f0 : Nat} {r1 : Nat} {r2 : Nat} {x3 : Int32} : ev F lv jm_Law_law 234 [.retAddr f0, .ref r1, .ref r2, .int x3] [] h = ev F lv jm_Law_law 235 [.retAddr f0, .ref r1, .ref r2, .int x3] [.ref r1] h := ev_s rfl rfl rfl rfl
set_option maxRecDepth 50000 in
theorem s_Law_law_235 {F : jx_F} {lv : Nat} {h : jx_H} {f0 : Nat} {r1 : Nat} {r2 : Nat} {x3 : Int32} {rs0 : Nat} : ev F lv jm_Law_law 235 [.retAddr f0, .ref r1, .ref r2, .int x3] [.ref rs0] h = ev F lv jm_Law_law 236 [.retAddr f0, .ref r1, .ref r2, .int x3] [.retAddr f0, .ref rs0] h := ev_s rfl rfl rfl rfl
set_option maxRecDepth 50000 in
theorem s_Law_law_236 {F : jx_F} {lv : Nat} {h : jx_H} {f0 : Nat} {r1 : Nat} {r2 : Nat} {x3 : Int32} {fs0 : Nat} {rs1 : Nat} : ev F lv jm_Law_law 236 [.retAddr f0, .ref r1, .ref r2, .int x3] [.retAddr fs0, .ref rs1] h = ev F lv jm_Law_law 237 [.retAddr f0, .ref r1, .ref r2, .int x3] [.int x3, .retAddr fs0, .ref rs1] h := ev_s rfl rfl rfl rfl
set_option maxRecDepth 50000 in
theorem s_Law_law_237 {F : jx_F} {lv : Nat} {h : jx_H} {f0 : Nat} {r1 : Nat} {r2 : Nat} {x3 : Int32} {xs0 : Int32} {fs1 : Nat} {rs2 : Nat} : ev F lv jm_Law_law 237 [.retAddr f0, .ref r1, .ref r2, .int x3] [.int xs0, .retAddr fs1, .ref rs2] h = ev F lv jm_Law_law 238 [.retAddr f0, .ref r1, .ref r2, .int x3] [.int 1, .int xs0, .retAddr fs1, .ref rs2] h := ev_s rfl rfl rfl rfl
set_option maxRecDepth 50000 in
theorem s_Law_law_238 {F : jx_F} {lv : Nat} {h : jx_H} {f0 : Nat} {r1 : Nat} {r2 : Nat} {x3 : Int32} {xs0 : Int32} {xs1 : Int32} {fs2 : Nat} {rs3 : Nat} : ev F lv jm_Law_law 238 [.retAddr f0, .ref r1, .ref r2, .int x3] [.int xs0, .int xs1, .retAddr fs2, .ref rs3] h = ev F lv jm_Law_law 239 [.retAddr f0, .ref r1, .ref r2, .int x3] [.int (xs1 + xs0), .retAddr fs2, .ref rs3] h := ev_s rfl rfl rfl rfl
set_option maxRecDepth 50000 in
theorem s_Law_law_239 {F : jx_F} {lv : Nat} {h : jx_H} {f0 : Nat} {r1 : Nat} {r2 : Nat} {x3 : Int32} {xs0 : Int32} {fs1 : Nat} {rs2 : Nat} : ev F lv jm_Law_law 239 [.retAddr f0, .ref r1, .ref r2, .int x3] [.int xs0, .retAddr fs1, .ref rs2] h = jx_gi F.1 0 fs1 xs0 fun v => ev F lv jm_Law_law 240 [.retAddr f0, .ref r1, .ref r2, .int x3] [.int v, .ref rs2] h := ev_gi rfl rfl rfl rfl
set_option maxRecDepth 50000 in
theorem s_Law_law_240 {F : jx_F} {lv : Nat} {h : jx_H} {f0 : Nat} {r1 : Nat} {r2 : Nat} {x3 : Int32} {xs0 : Int32} {rs1 : Nat} : ev F lv jm_Law_law 240 [.retAddr f0, .ref r1, .ref r2, .int x3] [.int xs0, .ref rs1] h = ev F lv jm_Law_law 241 [.retAddr f0, .ref r1, .ref r2, .int x3] [.retAddr f0, .int xs0, .ref rs1] h := ev_s rfl rfl rfl rfl
set_option maxRecDepth 50000 in
theorem s_Law_law_241 {F : jx_F} {lv : Nat} {h : jx_H} {f0 : Nat} {r1 : Nat} {r2 : Nat} {x3 : Int32} {fs0 : Nat} {xs1 : Int32} {rs2 : Nat} : ev F lv jm_Law_law 241 [.retAddr f0, .ref r1, .ref r2, .int x3] [.retAddr fs0, .int xs1, .ref rs2] h = ev F lv jm_Law_law 242 [.retAddr f0, .ref r1, .ref r2, .int x3] [.int x3, .retAddr fs0, .int xs1, .ref rs2] h := ev_s rfl rfl rfl rfl
set_option maxRecDepth 50000 in
theorem s_Law_law_242 {F : jx_F} {lv : Nat} {h : jx_H} {f0 : Nat} {r1 : Nat} {r2 : Nat} {x3 : Int32} {xs0 : Int32} {fs1 : Nat} {xs2 : Int32} {rs3 : Nat} : ev F lv jm_Law_law 242 [.retAddr f0, .ref r1, .ref r2, .int x3] [.int xs0, .retAddr fs1, .int xs2, .ref rs3] h = ev F lv jm_Law_law 243 [.retAddr f0, .ref r1, .ref r2, .int x3] [.int 2, .int xs0, .retAddr fs1, .int xs2, .ref rs3] h := ev_s rfl rfl rfl rfl
set_option maxRecDepth 50000 in
theorem s_Law_law_243 {F : jx_F} {lv : Nat} {h : jx_H} {f0 : Nat} {r1 : Nat} {r2 : Nat} {x3 : Int32} {xs0 : Int32} {xs1 : Int32} {fs2 : Nat} {xs3 : Int32} {rs4 : Nat} : ev F lv jm_Law_law 243 [.retAddr f0, .ref r1, .ref r2, .int x3] [.int xs0, .int xs1, .retAddr fs2, .int xs3, .ref rs4] h = ev F lv jm_Law_law 244 [.retAddr f0, .ref r1, .ref r2, .int x3] [.int (xs1 + xs0), .retAddr fs2, .int xs3, .ref rs4] h := ev_s rfl rfl rfl rfl
set_option maxRecDepth 50000 in
theorem s_Law_law_244 {F : jx_F} {lv : Nat} {h : jx_H} {f0 : Nat} {r1 : Nat} {r2 : Nat} {x3 : Int32} {xs0 : Int32} {fs1 : Nat} {xs2 : Int32} {rs3 : Nat} : ev F lv jm_Law_law 244 [.retAddr f0, .ref r1, .ref r2, .int x3] [.int xs0, .retAddr fs1, .int xs2, .ref rs3] h = jx_gi F.1 0 fs1 xs0 fun v => ev F lv jm_Law_law 245 [.retAddr f0, .ref r1, .ref r2, .int x3] [.int v, .int xs2, .ref rs3] h := ev_gi rfl rfl rfl rfl
set_option maxRecDepth 50000 in
theorem s_Law_law_245 {F : jx_F} {lv : Nat} {h : jx_H} {f0 : Nat} {r1 : Nat} {r2 : Nat} {x3 : Int32} {xs0 : Int32} {xs1 : Int32} {rs2 : Nat} (hr : jx_rcv F h 5 [.ref rs2, .int xs1, .int xs0] = true) : ev F (lv + 1) jm_Law_law 245 [.retAddr f0, .ref r1, .ref r2, .int x3] [.int xs0, .int xs1, .ref rs2] h = (rn F lv 67 [.ref rs2, .int xs1, .int xs0] h).bind fun q => ev F (lv + 1) jm_Law_law 248 [.retAddr f0, .ref r1, .ref r2, .int x3] (q.1.toList ++ []) q.2 := ev_cR rfl rfl rfl hr
set_option maxRecDepth 50000 in
theorem s_Law_law_248 {F : jx_F} {lv : Nat} {h : jx_H} {f0 : Nat} {r1 : Nat} {r2 : Nat} {x3 : Int32} {xs0 : Int32} : ev F lv jm_Law_law 248 [.retAddr f0, .ref r1, .ref r2, .int x3] [.int xs0] h = ev F lv jm_Law_law 249 [.retAddr f0, .ref r1, .ref r2, .int x3] [.ref r2, .int xs0] h := ev_s rfl rfl rfl rfl
set_option maxRecDepth 50000 in
theorem s_Law_law_249 {F : jx_F} {lv : Nat} {h : jx_H} {f0 : Nat} {r1 : Nat} {r2 : Nat} {x3 : Int32} {rs0 : Nat} {xs1 : Int32} : ev F lv jm_Law_law 249 [.retAddr f0, .ref r1, .ref r2, .int x3] [.ref rs0, .int xs1] h = ev F lv jm_Law_law 250 [.retAddr f0, .ref r1, .ref r2, .int x3] [.retAddr f0, .ref rs0, .int xs1] h := ev_s rfl rfl rfl rfl
set_option maxRecDepth 50000 in
theorem s_Law_law_250 {F : jx_F} {lv : Nat} {h : jx_H} {f0 : Nat} {r1 : Nat} {r2 : Nat} {x3 : Int32} {fs0 : Nat} {rs1 : Nat} {xs2 : Int32} : ev F lv jm_Law_law 250 [.retAddr f0, .ref r1, .ref r2, .int x3] [.retAddr fs0, .ref rs1, .int xs2] h = ev F lv jm_Law_law 251 [.retAddr f0, .ref r1, .ref r2, .int x3] [.int x3, .retAddr fs0, .ref rs1, .int xs2] h := ev_s rfl rfl rfl rfl
set_option maxRecDepth 50000 in
theorem s_Law_law_251 {F : jx_F} {lv : Nat} {h : jx_H} {f0 : Nat} {r1 : Nat} {r2 : Nat} {x3 : Int32} {xs0 : Int32} {fs1 : Nat} {rs2 : Nat} {xs3 : Int32} : ev F lv jm_Law_law 251 [.retAddr f0, .ref r1, .ref r2, .int x3] [.int xs0, .retAddr fs1, .ref rs2, .int xs3] h = ev F lv jm_Law_law 252 [.retAddr f0, .ref r1, .ref r2, .int x3] [.int 1, .int xs0, .retAddr fs1, .ref rs2, .int xs3] h := ev_s rfl rfl rfl rfl
set_option maxRecDepth 50000 in
theorem s_Law_law_252 {F : jx_F} {lv : Nat} {h : jx_H} {f0 : Nat} {r1 : Nat} {r2 : Nat} {x3 : Int32} {xs0 : Int32} {xs1 : Int32} {fs2 : Nat} {rs3 : Nat} {xs4 : Int32} : ev F lv jm_Law_law 252 [.retAddr f0, .ref r1, .ref r2, .int x3] [.int xs0, .int xs1, .retAddr fs2, .ref rs3, .int xs4] h = ev F lv jm_Law_law 253 [.retAddr f0, .ref r1, .ref r2, .int x3] [.int (xs1 + xs0), .retAddr fs2, .ref rs3, .int xs4] h := ev_s rfl rfl rfl rfl
set_option maxRecDepth 50000 in
theorem s_Law_law_253 {F : jx_F} {lv : Nat} {h : jx_H} {f0 : Nat} {r1 : Nat} {r2 : Nat} {x3 : Int32} {xs0 : Int32} {fs1 : Nat} {rs2 : Nat} {xs3 : Int32} : ev F lv jm_Law_law 253 [.retAddr f0, .ref r1, .ref r2, .int x3] [.int xs0, .retAddr fs1, .ref rs2, .int xs3] h = jx_gi F.1 0 fs1 xs0 fun v => ev F lv jm_Law_law 254 [.retAddr f0, .ref r1, .ref r2, .int x3] [.int v, .ref rs2, .int xs3] h := ev_gi rfl rfl rfl rfl
set_option maxRecDepth 50000 in
theorem s_Law_law_254 {F : jx_F} {lv : Nat} {h : jx_H} {f0 : Nat} {r1 : Nat} {r2 : Nat} {x3 : Int32} {xs0 : Int32} {rs1 : Nat} {xs2 : Int32} : ev F lv jm_Law_law 254 [.retAddr f0, .ref r1, .ref r2, .int x3] [.int xs0, .ref rs1, .int xs2] h = ev F lv jm_Law_law 255 [.retAddr f0, .ref r1, .ref r2, .int x3] [.retAddr f0, .int xs0, .ref rs1, .int xs2] h := ev_s rfl rfl rfl rfl
set_option maxRecDepth 50000 in
theorem s_Law_law_255 {F : jx_F} {lv : Nat} {h : jx_H} {f0 : Nat} {r1 : Nat} {r2 : Nat} {x3 : Int32} {fs0 : Nat} {xs1 : Int32} {rs2 : Nat} {xs3 : Int32} : ev F lv jm_Law_law 255 [.retAddr f0, .ref r1, .ref r2, .int x3] [.retAddr fs0, .int xs1, .ref rs2, .int xs3] h = ev F lv jm_Law_law 256 [.retAddr f0, .ref r1, .ref r2, .int x3] [.int x3, .retAddr fs0, .int xs1, .ref rs2, .int xs3] h := ev_s rfl rfl rfl rfl
set_option maxRecDepth 50000 in
theorem s_Law_law_256 {F : jx_F} {lv : Nat} {h : jx_H} {f0 : Nat} {r1 : Nat} {r2 : Nat} {x3 : Int32} {xs0 : Int32} {fs1 : Nat} {xs2 : Int32} {rs3 : Nat} {xs4 : Int32} : ev F lv jm_Law_law 256 [.retAddr f0, .ref r1, .ref r2, .int x3] [.int xs0, .retAddr fs1, .int xs2, .ref rs3, .int xs4] h = ev F lv jm_Law_law 257 [.retAddr f0, .ref r1, .ref r2, .int x3] [.int 2, .int xs0, .retAddr fs1, .int xs2, .ref rs3, .int xs4] h := ev_s rfl rfl rfl rfl
set_option maxRecDepth 50000 in
theorem s_Law_law_257 {F : jx_F} {lv : Nat} {h : jx_H} {f0 : Nat} {r1 : Nat} {r2 : Nat} {x3 : Int32} {xs0 : Int32} {xs1 : Int32} {fs2 : Nat} {xs3 : Int32} {rs4 : Nat} {xs5 : Int32} : ev F lv jm_Law_law 257 [.retAddr f0, .ref r1, .ref r2, .int x3] [.int xs0, .int xs1, .retAddr fs2, .int xs3, .ref rs4, .int xs5] h = ev F lv jm_Law_law 258 [.retAddr f0, .ref r1, .ref r2, .int x3] [.int (xs1 + xs0), .retAddr fs2, .int xs3, .ref rs4, .int xs5] h := ev_s rfl rfl rfl rfl
set_option maxRecDepth 50000 in
theorem s_Law_law_258 {F : jx_F} {lv : Nat} {h : jx_H} {f0 : Nat} {r1 : Nat} {r2 : Nat} {x3 : Int32} {xs0 : Int32} {fs1 : Nat} {xs2 : Int32} {rs3 : Nat} {xs4 : Int32} : ev F lv jm_Law_law 258 [.retAddr f0, .ref r1, .ref r2, .int x3] [.int xs0, .retAddr fs1, .int xs2, .ref rs3, .int xs4] h = jx_gi F.1 0 fs1 xs0 fun v => ev F lv jm_Law_law 259 [.retAddr f0, .ref r1, .ref r2, .int x3] [.int v, .int xs2, .ref rs3, .int xs4] h := ev_gi rfl rfl rfl rfl
set_option maxRecDepth 50000 in
theorem s_Law_law_259 {F : jx_F} {lv : Nat} {h : jx_H} {f0 : Nat} {r1 : Nat} {r2 : Nat} {x3 : Int32} {xs0 : Int32} {xs1 : Int32} {rs2 : Nat} {xs3 : Int32} (hr : jx_rcv F h 6 [.ref rs2, .int xs1, .int xs0] = true) : ev F (lv + 1) jm_Law_law 259 [.retAddr f0, .ref r1, .ref r2, .int x3] [.int xs0, .int xs1, .ref rs2, .int xs3] h = (rn F lv 134 [.ref rs2, .int xs1, .int xs0] h).bind fun q => ev F (lv + 1) jm_Law_law 262 [.retAddr f0, .ref r1, .ref r2, .int x3] (q.1.toList ++ [.int xs3]) q.2 := ev_cR rfl rfl rfl hr
set_option maxRecDepth 50000 in
theorem s_Law_law_262 {F : jx_F} {lv : Nat} {h : jx_H} {f0 : Nat} {r1 : Nat} {r2 : Nat} {x3 : Int32} {xs0 : Int32} {xs1 : Int32} : ev F lv jm_Law_law 262 [.retAddr f0, .ref r1, .ref r2, .int x3] [.int xs0, .int xs1] h = if xs1 = xs0 then ev F lv jm_Law_law 1045 [.retAddr f0, .ref r1, .ref r2, .int x3] [] h else ev F lv jm_Law_law 265 [.retAddr f0, .ref r1, .ref r2, .int x3] [] h := ev_b (off := 783) (b := jx_cmpB .eq xs1 xs0) rfl rfl rfl rfl rfl (by decide)
set_option maxRecDepth 50000 in
theorem s_Law_law_265 {F : jx_F} {lv : Nat} {h : jx_H} {f0 : Nat} {r1 : Nat} {r2 : Nat} {x3 : Int32} : ev F lv jm_Law_law 265 [.retAddr f0, .ref r1, .ref r2, .int x3] [] h = ev F lv jm_Law_law 266 [.retAddr f0, .ref r1, .ref r2, .int x3] [.int 0] h := ev_s rfl rfl rfl rfl
set_option maxRecDepth 50000 in
theorem s_Law_law_266 {F : jx_F} {lv : Nat} {h : jx_H} {f0 : Nat} {r1 : Nat} {r2 : Nat} {x3 : Int32} {xs0 : Int32} (hb : jx_ret1 4 xs0 = true) : ev F lv jm_Law_law 266 [.retAddr f0, .ref r1, .ref r2, .int x3] [.int xs0] h = some (some (.int xs0), h) := ev_rB rfl rfl hb
set_option maxRecDepth 50000 in
theorem s_Law_law_267 {F : jx_F} {lv : Nat} {h : jx_H} {f0 : Nat} {r1 : Nat} {r2 : Nat} {x3 : Int32} : ev F lv jm_Law_law 267 [.retAddr f0, .ref r1, .ref r2, .int x3] [] h = ev F lv jm_Law_law 268 [.retAddr f0, .ref r1, .ref r2, .int x3] [.ref r1] h := ev_s rfl rfl rfl rfl
set_option maxRecDepth 50000 in
theorem s_Law_law_268 {F : jx_F} {lv : Nat} {h : jx_H} {f0 : Nat} {r1 : Nat} {r2 : Nat} {x3 : Int32} {rs0 : Nat} : ev F lv jm_Law_law 268 [.retAddr f0, .ref r1, .ref r2, .int x3] [.ref rs0] h = ev F lv jm_Law_law 269 [.retAddr f0, .ref r1, .ref r2, .int x3] [.retAddr f0, .ref rs0] h := ev_s rfl rfl rfl rfl
set_option maxRecDepth 50000 in
theorem s_Law_law_269 {F : jx_F} {lv : Nat} {h : jx_H} {f0 : Nat} {r1 : Nat} {r2 : Nat} {x3 : Int32} {fs0 : Nat} {rs1 : Nat} : ev F lv jm_Law_law 269 [.retAddr f0, .ref r1, .ref r2, .int x3] [.retAddr fs0, .ref rs1] h = ev F lv jm_Law_law 270 [.retAddr f0, .ref r1, .ref r2, .int x3] [.int x3, .retAddr fs0, .ref rs1] h := ev_s rfl rfl rfl rfl
set_option maxRecDepth 50000 in
theorem s_Law_law_270 {F : jx_F} {lv : Nat} {h : jx_H} {f0 : Nat} {r1 : Nat} {r2 : Nat} {x3 : Int32} {xs0 : Int32} {fs1 : Nat} {rs2 : Nat} : ev F lv jm_Law_law 270 [.retAddr f0, .ref r1, .ref r2, .int x3] [.int xs0, .retAddr fs1, .ref rs2] h = ev F lv jm_Law_law 271 [.retAddr f0, .ref r1, .ref r2, .int x3] [.int 1, .int xs0, .retAddr fs1, .ref rs2] h := ev_s rfl rfl rfl rfl
set_option maxRecDepth 50000 in
theorem s_Law_law_271 {F : jx_F} {lv : Nat} {h : jx_H} {f0 : Nat} {r1 : Nat} {r2 : Nat} {x3 : Int32} {xs0 : Int32} {xs1 : Int32} {fs2 : Nat} {rs3 : Nat} : ev F lv jm_Law_law 271 [.retAddr f0, .ref r1, .ref r2, .int x3] [.int xs0, .int xs1, .retAddr fs2, .ref rs3] h = ev F lv jm_Law_law 272 [.retAddr f0, .ref r1, .ref r2, .int x3] [.int (xs1 + xs0), .retAddr fs2, .ref rs3] h := ev_s rfl rfl rfl rfl
set_option maxRecDepth 50000 in
theorem s_Law_law_272 {F : jx_F} {lv : Nat} {h : jx_H} {f0 : Nat} {r1 : Nat} {r2 : Nat} {x3 : Int32} {xs0 : Int32} {fs1 : Nat} {rs2 : Nat} : ev F lv jm_Law_law 272 [.retAddr f0, .ref r1, .ref r2, .int x3] [.int xs0, .retAddr fs1, .ref rs2] h = jx_gi F.1 0 fs1 xs0 fun v => ev F lv jm_Law_law 273 [.retAddr f0, .ref r1, .ref r2, .int x3] [.int v, .ref rs2] h := ev_gi rfl rfl rfl rfl
set_option maxRecDepth 50000 in
theorem s_Law_law_273 {F : jx_F} {lv : Nat} {h : jx_H} {f0 : Nat} {r1 : Nat} {r2 : Nat} {x3 : Int32} {xs0 : Int32} {rs1 : Nat} : ev F lv jm_Law_law 273 [.retAddr f0, .ref r1, .ref r2, .int x3] [.int xs0, .ref rs1] h = ev F lv jm_Law_law 274 [.retAddr f0, .ref r1, .ref r2, .int x3] [.retAddr f0, .int xs0, .ref rs1] h := ev_s rfl rfl rfl rfl
set_option maxRecDepth 50000 in
theorem s_Law_law_274 {F : jx_F} {lv : Nat} {h : jx_H} {f0 : Nat} {r1 : Nat} {r2 : Nat} {x3 : Int32} {fs0 : Nat} {xs1 : Int32} {rs2 : Nat} : ev F lv jm_Law_law 274 [.retAddr f0, .ref r1, .ref r2, .int x3] [.retAddr fs0, .int xs1, .ref rs2] h = ev F lv jm_Law_law 275 [.retAddr f0, .ref r1, .ref r2, .int x3] [.int x3, .retAddr fs0, .int xs1, .ref rs2] h := ev_s rfl rfl rfl rfl
set_option maxRecDepth 50000 in
theorem s_Law_law_275 {F : jx_F} {lv : Nat} {h : jx_H} {f0 : Nat} {r1 : Nat} {r2 : Nat} {x3 : Int32} {xs0 : Int32} {fs1 : Nat} {xs2 : Int32} {rs3 : Nat} : ev F lv jm_Law_law 275 [.retAddr f0, .ref r1, .ref r2, .int x3] [.int xs0, .retAddr fs1, .int xs2, .ref rs3] h = ev F lv jm_Law_law 276 [.retAddr f0, .ref r1, .ref r2, .int x3] [.int 2, .int xs0, .retAddr fs1, .int xs2, .ref rs3] h := ev_s rfl rfl rfl rfl
set_option maxRecDepth 50000 in
theorem s_Law_law_276 {F : jx_F} {lv : Nat} {h : jx_H} {f0 : Nat} {r1 : Nat} {r2 : Nat} {x3 : Int32} {xs0 : Int32} {xs1 : Int32} {fs2 : Nat} {xs3 : Int32} {rs4 : Nat} : ev F lv jm_Law_law 276 [.retAddr f0, .ref r1, .ref r2, .int x3] [.int xs0, .int xs1, .retAddr fs2, .int xs3, .ref rs4] h = ev F lv jm_Law_law 277 [.retAddr f0, .ref r1, .ref r2, .int x3] [.int (xs1 + xs0), .retAddr fs2, .int xs3, .ref rs4] h := ev_s rfl rfl rfl rfl
set_option maxRecDepth 50000 in
theorem s_Law_law_277 {F : jx_F} {lv : Nat} {h : jx_H} {f0 : Nat} {r1 : Nat} {r2 : Nat} {x3 : Int32} {xs0 : Int32} {fs1 : Nat} {xs2 : Int32} {rs3 : Nat} : ev F lv jm_Law_law 277 [.retAddr f0, .ref r1, .ref r2, .int x3] [.int xs0, .retAddr fs1, .int xs2, .ref rs3] h = jx_gi F.1 0 fs1 xs0 fun v => ev F lv jm_Law_law 278 [.retAddr f0, .ref r1, .ref r2, .int x3] [.int v, .int xs2, .ref rs3] h := ev_gi rfl rfl rfl rfl
set_option maxRecDepth 50000 in
theorem s_Law_law_278 {F : jx_F} {lv : Nat} {h : jx_H} {f0 : Nat} {r1 : Nat} {r2 : Nat} {x3 : Int32} {xs0 : Int32} {xs1 : Int32} {rs2 : Nat} (hr : jx_rcv F h 5 [.ref rs2, .int xs1, .int xs0] = true) : ev F (lv + 1) jm_Law_law 278 [.retAddr f0, .ref r1, .ref r2, .int x3] [.int xs0, .int xs1, .ref rs2] h = (rn F lv 68 [.ref rs2, .int xs1, .int xs0] h).bind fun q => ev F (lv + 1) jm_Law_law 281 [.retAddr f0, .ref r1, .ref r2, .int x3] (q.1.toList ++ []) q.2 := ev_cR rfl rfl rfl hr
set_option maxRecDepth 50000 in
theorem s_Law_law_281 {F : jx_F} {lv : Nat} {h : jx_H} {f0 : Nat} {r1 : Nat} {r2 : Nat} {x3 : Int32} {xs0 : Int32} : ev F lv jm_Law_law 281 [.retAddr f0, .ref r1, .ref r2, .int x3] [.int xs0] h = ev F lv jm_Law_law 282 [.retAddr f0, .ref r1, .ref r2, .int x3] [.ref r2, .int xs0] h := ev_s rfl rfl rfl rfl
set_option maxRecDepth 50000 in
theorem s_Law_law_282 {F : jx_F} {lv : Nat} {h : jx_H} {f0 : Nat} {r1 : Nat} {r2 : Nat} {x3 : Int32} {rs0 : Nat} {xs1 : Int32} : ev F lv jm_Law_law 282 [.retAddr f0, .ref r1, .ref r2, .int x3] [.ref rs0, .int xs1] h = ev F lv jm_Law_law 283 [.retAddr f0, .ref r1, .ref r2, .int x3] [.retAddr f0, .ref rs0, .int xs1] h := ev_s rfl rfl rfl rfl
set_option maxRecDepth 50000 in
theorem s_Law_law_283 {F : jx_F} {lv : Nat} {h : jx_H} {f0 : Nat} {r1 : Nat} {r2 : Nat} {x3 : Int32} {fs0 : Nat} {rs1 : Nat} {xs2 : Int32} : ev F lv jm_Law_law 283 [.retAddr f0, .ref r1, .ref r2, .int x3] [.retAddr fs0, .ref rs1, .int xs2] h = ev F lv jm_Law_law 284 [.retAddr f0, .ref r1, .ref r2, .int x3] [.int x3, .retAddr fs0, .ref rs1, .int xs2] h := ev_s rfl rfl rfl rfl
set_option maxRecDepth 50000 in
theorem s_Law_law_284 {F : jx_F} {lv : Nat} {h : jx_H} {f0 : Nat} {r1 : Nat} {r2 : Nat} {x3 : Int32} {xs0 : Int32} {fs1 : Nat} {rs2 : Nat} {xs3 : Int32} : ev F lv jm_Law_law 284 [.retAddr f0, .ref r1, .ref r2, .int x3] [.int xs0, .retAddr fs1, .ref rs2, .int xs3] h = ev F lv jm_Law_law 285 [.retAddr f0, .ref r1, .ref r2, .int x3] [.int 1, .int xs0, .retAddr fs1, .ref rs2, .int xs3] h := ev_s rfl rfl rfl rfl
set_option maxRecDepth 50000 in
theorem s_Law_law_285 {F : jx_F} {lv : Nat} {h : jx_H} {f0 : Nat} {r1 : Nat} {r2 : Nat} {x3 : Int32} {xs0 : Int32} {xs1 : Int32} {fs2 : Nat} {rs3 : Nat} {xs4 : Int32} : ev F lv jm_Law_law 285 [.retAddr f0, .ref r1, .ref r2, .int x3] [.int xs0, .int xs1, .retAddr fs2, .ref rs3, .int xs4] h = ev F lv jm_Law_law 286 [.retAddr f0, .ref r1, .ref r2, .int x3] [.int (xs1 + xs0), .retAddr fs2, .ref rs3, .int xs4] h := ev_s rfl rfl rfl rfl
set_option maxRecDepth 50000 in
theorem s_Law_law_286 {F : jx_F} {lv : Nat} {h : jx_H} {f0 : Nat} {r1 : Nat} {r2 : Nat} {x3 : Int32} {xs0 : Int32} {fs1 : Nat} {rs2 : Nat} {xs3 : Int32} : ev F lv jm_Law_law 286 [.retAddr f0, .ref r1, .ref r2, .int x3] [.int xs0, .retAddr fs1, .ref rs2, .int xs3] h = jx_gi F.1 0 fs1 xs0 fun v => ev F lv jm_Law_law 287 [.retAddr f0, .ref r1, .ref r2, .int x3] [.int v, .ref rs2, .int xs3] h := ev_gi rfl rfl rfl rfl
set_option maxRecDepth 50000 in
theorem s_Law_law_287 {F : jx_F} {lv : Nat} {h : jx_H} {f0 : Nat} {r1 : Nat} {r2 : Nat} {x3 : Int32} {xs0 : Int32} {rs1 : Nat} {xs2 : Int32} : ev F lv jm_Law_law 287 [.retAddr f0, .ref r1, .ref r2, .int x3] [.int xs0, .ref rs1, .int xs2] h = ev F lv jm_Law_law 288 [.retAddr f0, .ref r1, .ref r2, .int x3] [.retAddr f0, .int xs0, .ref rs1, .int xs2] h := ev_s rfl rfl rfl rfl
set_option maxRecDepth 50000 in
theorem s_Law_law_288 {F : jx_F} {lv : Nat} {h : jx_H} {f0 : Nat} {r1 : Nat} {r2 : Nat} {x3 : Int32} {fs0 : Nat} {xs1 : Int32} {rs2 : Nat} {xs3 : Int32} : ev F lv jm_Law_law 288 [.retAddr f0, .ref r1, .ref r2, .int x3] [.retAddr fs0, .int xs1, .ref rs2, .int xs3] h = ev F lv jm_Law_law 289 [.retAddr f0, .ref r1, .ref r2, .int x3] [.int x3, .retAddr fs0, .int xs1, .ref rs2, .int xs3] h := ev_s rfl rfl rfl rfl
set_option maxRecDepth 50000 in
theorem s_Law_law_289 {F : jx_F} {lv : Nat} {h : jx_H} {f0 : Nat} {r1 : Nat} {r2 : Nat} {x3 : Int32} {xs0 : Int32} {fs1 : Nat} {xs2 : Int32} {rs3 : Nat} {xs4 : Int32} : ev F lv jm_Law_law 289 [.retAddr f0, .ref r1, .ref r2, .int x3] [.int xs0, .retAddr fs1, .int xs2, .ref rs3, .int xs4] h = ev F lv jm_Law_law 290 [.retAddr f0, .ref r1, .ref r2, .int x3] [.int 2, .int xs0, .retAddr fs1, .int xs2, .ref rs3, .int xs4] h := ev_s rfl rfl rfl rfl
set_option maxRecDepth 50000 in
theorem s_Law_law_290 {F : jx_F} {lv : Nat} {h : jx_H} {f0 : Nat} {r1 : Nat} {r2 : Nat} {x3 : Int32} {xs0 : Int32} {xs1 : Int32} {fs2 : Nat} {xs3 : Int32} {rs4 : Nat} {xs5 : Int32} : ev F lv jm_Law_law 290 [.retAddr f0, .ref r1, .ref r2, .int x3] [.int xs0, .int xs1, .retAddr fs2, .int xs3, .ref rs4, .int xs5] h = ev F lv jm_Law_law 291 [.retAddr f0, .ref r1, .ref r2, .int x3] [.int (xs1 + xs0), .retAddr fs2, .int xs3, .ref rs4, .int xs5] h := ev_s rfl rfl rfl rfl
set_option maxRecDepth 50000 in
theorem s_Law_law_291 {F : jx_F} {lv : Nat} {h : jx_H} {f0 : Nat} {r1 : Nat} {r2 : Nat} {x3 : Int32} {xs0 : Int32} {fs1 : Nat} {xs2 : Int32} {rs3 : Nat} {xs4 : Int32} : ev F lv jm_Law_law 291 [.retAddr f0, .ref r1, .ref r2, .int x3] [.int xs0, .retAddr fs1, .int xs2, .ref rs3, .int xs4] h = jx_gi F.1 0 fs1 xs0 fun v => ev F lv jm_Law_law 292 [.retAddr f0, .ref r1, .ref r2, .int x3] [.int v, .int xs2, .ref rs3, .int xs4] h := ev_gi rfl rfl rfl rfl
set_option maxRecDepth 50000 in
theorem s_Law_law_292 {F : jx_F} {lv : Nat} {h : jx_H} {f0 : Nat} {r1 : Nat} {r2 : Nat} {x3 : Int32} {xs0 : Int32} {xs1 : Int32} {rs2 : Nat} {xs3 : Int32} (hr : jx_rcv F h 6 [.ref rs2, .int xs1, .int xs0] = true) : ev F (lv + 1) jm_Law_law 292 [.retAddr f0, .ref r1, .ref r2, .int x3] [.int xs0, .int xs1, .ref rs2, .int xs3] h = (rn F lv 135 [.ref rs2, .int xs1, .int xs0] h).bind fun q => ev F (lv + 1) jm_Law_law 295 [.retAddr f0, .ref r1, .ref r2, .int x3] (q.1.toList ++ [.int xs3]) q.2 := ev_cR rfl rfl rfl hr
set_option maxRecDepth 50000 in
theorem s_Law_law_295 {F : jx_F} {lv : Nat} {h : jx_H} {f0 : Nat} {r1 : Nat} {r2 : Nat} {x3 : Int32} {xs0 : Int32} {xs1 : Int32} : ev F lv jm_Law_law 295 [.retAddr f0, .ref r1, .ref r2, .int x3] [.int xs0, .int xs1] h = if xs1 = xs0 then ev F lv jm_Law_law 1045 [.retAddr f0, .ref r1, .ref r2, .int x3] [] h else ev F lv jm_Law_law 298 [.retAddr f0, .ref r1, .ref r2, .int x3] [] h := ev_b (off := 750) (b := jx_cmpB .eq xs1 xs0) rfl rfl rfl rfl rfl (by decide)
set_option maxRecDepth 50000 in
theorem s_Law_law_298 {F : jx_F} {lv : Nat} {h : jx_H} {f0 : Nat} {r1 : Nat} {r2 : Nat} {x3 : Int32} : ev F lv jm_Law_law 298 [.retAddr f0, .ref r1, .ref r2, .int x3] [] h = ev F lv jm_Law_law 299 [.retAddr f0, .ref r1, .ref r2, .int x3] [.int 0] h := ev_s rfl rfl rfl rfl
set_option maxRecDepth 50000 in
theorem s_Law_law_299 {F : jx_F} {lv : Nat} {h : jx_H} {f0 : Nat} {r1 : Nat} {r2 : Nat} {x3 : Int32} {xs0 : Int32} (hb : jx_ret1 4 xs0 = true) : ev F lv jm_Law_law 299 [.retAddr f0, .ref r1, .ref r2, .int x3] [.int xs0] h = some (some (.int xs0), h) := ev_rB rfl rfl hb
set_option maxRecDepth 50000 in
theorem s_Law_law_300 {F : jx_F} {lv : Nat} {h : jx_H} {f0 : Nat} {r1 : Nat} {r2 : Nat} {x3 : Int32} : ev F lv jm_Law_law 300 [.retAddr f0, .ref r1, .ref r2, .int x3] [] h = ev F lv jm_Law_law 301 [.retAddr f0, .ref r1, .ref r2, .int x3] [.ref r1] h := ev_s rfl rfl rfl rfl
set_option maxRecDepth 50000 in
theorem s_Law_law_301 {F : jx_F} {lv : Nat} {h : jx_H} {f0 : Nat} {r1 : Nat} {r2 : Nat} {x3 : Int32} {rs0 : Nat} : ev F lv jm_Law_law 301 [.retAddr f0, .ref r1, .ref r2, .int x3] [.ref rs0] h = ev F lv jm_Law_law 302 [.retAddr f0, .ref r1, .ref r2, .int x3] [.retAddr f0, .ref rs0] h := ev_s rfl rfl rfl rfl
set_option maxRecDepth 50000 in
theorem s_Law_law_302 {F : jx_F} {lv : Nat} {h : jx_H} {f0 : Nat} {r1 : Nat} {r2 : Nat} {x3 : Int32} {fs0 : Nat} {rs1 : Nat} : ev F lv jm_Law_law 302 [.retAddr f0, .ref r1, .ref r2, .int x3] [.retAddr fs0, .ref rs1] h = ev F lv jm_Law_law 303 [.retAddr f0, .ref r1, .ref r2, .int x3] [.int x3, .retAddr fs0, .ref rs1] h := ev_s rfl rfl rfl rfl
set_option maxRecDepth 50000 in
theorem s_Law_law_303 {F : jx_F} {lv : Nat} {h : jx_H} {f0 : Nat} {r1 : Nat} {r2 : Nat} {x3 : Int32} {xs0 : Int32} {fs1 : Nat} {rs2 : Nat} : ev F lv jm_Law_law 303 [.retAddr f0, .ref r1, .ref r2, .int x3] [.int xs0, .retAddr fs1, .ref rs2] h = ev F lv jm_Law_law 304 [.retAddr f0, .ref r1, .ref r2, .int x3] [.int 1, .int xs0, .retAddr fs1, .ref rs2] h := ev_s rfl rfl rfl rfl
set_option maxRecDepth 50000 in
theorem s_Law_law_304 {F : jx_F} {lv : Nat} {h : jx_H} {f0 : Nat} {r1 : Nat} {r2 : Nat} {x3 : Int32} {xs0 : Int32} {xs1 : Int32} {fs2 : Nat} {rs3 : Nat} : ev F lv jm_Law_law 304 [.retAddr f0, .ref r1, .ref r2, .int x3] [.int xs0, .int xs1, .retAddr fs2, .ref rs3] h = ev F lv jm_Law_law 305 [.retAddr f0, .ref r1, .ref r2, .int x3] [.int (xs1 + xs0), .retAddr fs2, .ref rs3] h := ev_s rfl rfl rfl rfl
set_option maxRecDepth 50000 in
theorem s_Law_law_305 {F : jx_F} {lv : Nat} {h : jx_H} {f0 : Nat} {r1 : Nat} {r2 : Nat} {x3 : Int32} {xs0 : Int32} {fs1 : Nat} {rs2 : Nat} : ev F lv jm_Law_law 305 [.retAddr f0, .ref r1, .ref r2, .int x3] [.int xs0, .retAddr fs1, .ref rs2] h = jx_gi F.1 0 fs1 xs0 fun v => ev F lv jm_Law_law 306 [.retAddr f0, .ref r1, .ref r2, .int x3] [.int v, .ref rs2] h := ev_gi rfl rfl rfl rfl
set_option maxRecDepth 50000 in
theorem s_Law_law_306 {F : jx_F} {lv : Nat} {h : jx_H} {f0 : Nat} {r1 : Nat} {r2 : Nat} {x3 : Int32} {xs0 : Int32} {rs1 : Nat} (hr : jx_rcv F h 5 [.ref rs1, .int xs0] = true) : ev F (lv + 1) jm_Law_law 306 [.retAddr f0, .ref r1, .ref r2, .int x3] [.int xs0, .ref rs1] h = (rn F lv 69 [.ref rs1, .int xs0] h).bind fun q => ev F (lv + 1) jm_Law_law 309 [.retAddr f0, .ref r1, .ref r2, .int x3] (q.1.toList ++ []) q.2 := ev_cR rfl rfl rfl hr
set_option maxRecDepth 50000 in
theorem s_Law_law_309 {F : jx_F} {lv : Nat} {h : jx_H} {f0 : Nat} {r1 : Nat} {r2 : Nat} {x3 : Int32} {xs0 : Int32} : ev F lv jm_Law_law 309 [.retAddr f0, .ref r1, .ref r2, .int x3] [.int xs0] h = ev F lv jm_Law_law 310 [.retAddr f0, .ref r1, .ref r2, .int x3] [.ref r2, .int xs0] h := ev_s rfl rfl rfl rfl
set_option maxRecDepth 50000 in
theorem s_Law_law_310 {F : jx_F} {lv : Nat} {h : jx_H} {f0 : Nat} {r1 : Nat} {r2 : Nat} {x3 : Int32} {rs0 : Nat} {xs1 : Int32} : ev F lv jm_Law_law 310 [.retAddr f0, .ref r1, .ref r2, .int x3] [.ref rs0, .int xs1] h = ev F lv jm_Law_law 311 [.retAddr f0, .ref r1, .ref r2, .int x3] [.retAddr f0, .ref rs0, .int xs1] h := ev_s rfl rfl rfl rfl
set_option maxRecDepth 50000 in
theorem s_Law_law_311 {F : jx_F} {lv : Nat} {h : jx_H} {f0 : Nat} {r1 : Nat} {r2 : Nat} {x3 : Int32} {fs0 : Nat} {rs1 : Nat} {xs2 : Int32} : ev F lv jm_Law_law 311 [.retAddr f0, .ref r1, .ref r2, .int x3] [.retAddr fs0, .ref rs1, .int xs2] h = ev F lv jm_Law_law 312 [.retAddr f0, .ref r1, .ref r2, .int x3] [.int x3, .retAddr fs0, .ref rs1, .int xs2] h := ev_s rfl rfl rfl rfl
set_option maxRecDepth 50000 in
theorem s_Law_law_312 {F : jx_F} {lv : Nat} {h : jx_H} {f0 : Nat} {r1 : Nat} {r2 : Nat} {x3 : Int32} {xs0 : Int32} {fs1 : Nat} {rs2 : Nat} {xs3 : Int32} : ev F lv jm_Law_law 312 [.retAddr f0, .ref r1, .ref r2, .int x3] [.int xs0, .retAddr fs1, .ref rs2, .int xs3] h = ev F lv jm_Law_law 313 [.retAddr f0, .ref r1, .ref r2, .int x3] [.int 1, .int xs0, .retAddr fs1, .ref rs2, .int xs3] h := ev_s rfl rfl rfl rfl
set_option maxRecDepth 50000 in
theorem s_Law_law_313 {F : jx_F} {lv : Nat} {h : jx_H} {f0 : Nat} {r1 : Nat} {r2 : Nat} {x3 : Int32} {xs0 : Int32} {xs1 : Int32} {fs2 : Nat} {rs3 : Nat} {xs4 : Int32} : ev F lv jm_Law_law 313 [.retAddr f0, .ref r1, .ref r2, .int x3] [.int xs0, .int xs1, .retAddr fs2, .ref rs3, .int xs4] h = ev F lv jm_Law_law 314 [.retAddr f0, .ref r1, .ref r2, .int x3] [.int (xs1 + xs0), .retAddr fs2, .ref rs3, .int xs4] h := ev_s rfl rfl rfl rfl
set_option maxRecDepth 50000 in
theorem s_Law_law_314 {F : jx_F} {lv : Nat} {h : jx_H} {f0 : Nat} {r1 : Nat} {r2 : Nat} {x3 : Int32} {xs0 : Int32} {fs1 : Nat} {rs2 : Nat} {xs3 : Int32} : ev F lv jm_Law_law 314 [.retAddr f0, .ref r1, .ref r2, .int x3] [.int xs0, .retAddr fs1, .ref rs2, .int xs3] h = jx_gi F.1 0 fs1 xs0 fun v => ev F lv jm_Law_law 315 [.retAddr f0, .ref r1, .ref r2, .int x3] [.int v, .ref rs2, .int xs3] h := ev_gi rfl rfl rfl rfl
set_option maxRecDepth 50000 in
theorem s_Law_law_315 {F : jx_F} {lv : Nat} {h : jx_H} {f0 : Nat} {r1 : Nat} {r2 : Nat} {x3 : Int32} {xs0 : Int32} {rs1 : Nat} {xs2 : Int32} (hr : jx_rcv F h 6 [.ref rs1, .int xs0] = true) : ev F (lv + 1) jm_Law_law 315 [.retAddr f0, .ref r1, .ref r2, .int x3] [.int xs0, .ref rs1, .int xs2] h = (rn F lv 137 [.ref rs1, .int xs0] h).bind fun q => ev F (lv + 1) jm_Law_law 318 [.retAddr f0, .ref r1, .ref r2, .int x3] (q.1.toList ++ [.int xs2]) q.2 := ev_cR rfl rfl rfl hr
set_option maxRecDepth 50000 in
theorem s_Law_law_318 {F : jx_F} {lv : Nat} {h : jx_H} {f0 : Nat} {r1 : Nat} {r2 : Nat} {x3 : Int32} {xs0 : Int32} {xs1 : Int32} : ev F lv jm_Law_law 318 [.retAddr f0, .ref r1, .ref r2, .int x3] [.int xs0, .int xs1] h = if xs1 = xs0 then ev F lv jm_Law_law 1045 [.retAddr f0, .ref r1, .ref r2, .int x3] [] h else ev F lv jm_Law_law 321 [.retAddr f0, .ref r1, .ref r2, .int x3] [] h := ev_b (off := 727) (b := jx_cmpB .eq xs1 xs0) rfl rfl rfl rfl rfl (by decide)
set_option maxRecDepth 50000 in
theorem s_Law_law_321 {F : jx_F} {lv : Nat} {h : jx_H} {f0 : Nat} {r1 : Nat} {r2 : Nat} {x3 : Int32} : ev F lv jm_Law_law 321 [.retAddr f0, .ref r1, .ref r2, .int x3] [] h = ev F lv jm_Law_law 322 [.retAddr f0, .ref r1, .ref r2, .int x3] [.int 0] h := ev_s rfl rfl rfl rfl
set_option maxRecDepth 50000 in
theorem s_Law_law_322 {F : jx_F} {lv : Nat} {h : jx_H} {f0 : Nat} {r1 : Nat} {r2 : Nat} {x3 : Int32} {xs0 : Int32} (hb : jx_ret1 4 xs0 = true) : ev F lv jm_Law_law 322 [.retAddr f0, .ref r1, .ref r2, .int x3] [.int xs0] h = some (some (.int xs0), h) := ev_rB rfl rfl hb
set_option maxRecDepth 50000 in
theorem s_Law_law_323 {F : jx_F} {lv : Nat} {h : jx_H} {f0 : Nat} {r1 : Nat} {r2 : Nat} {x3 : Int32} : ev F lv jm_Law_law 323 [.retAddr f0, .ref r1, .ref r2, .int x3] [] h = ev F lv jm_Law_law 324 [.retAddr f0, .ref r1, .ref r2, .int x3] [.ref r1] h := ev_s rfl rfl rfl rfl
set_option maxRecDepth 50000 in
theorem s_Law_law_324 {F : jx_F} {lv : Nat} {h : jx_H} {f0 : Nat} {r1 : Nat} {r2 : Nat} {x3 : Int32} {rs0 : Nat} : ev F lv jm_Law_law 324 [.retAddr f0, .ref r1, .ref r2, .int x3] [.ref rs0] h = ev F lv jm_Law_law 325 [.retAddr f0, .ref r1, .ref r2, .int x3] [.retAddr f0, .ref rs0] h := ev_s rfl rfl rfl rfl
set_option maxRecDepth 50000 in
theorem s_Law_law_325 {F : jx_F} {lv : Nat} {h : jx_H} {f0 : Nat} {r1 : Nat} {r2 : Nat} {x3 : Int32} {fs0 : Nat} {rs1 : Nat} : ev F lv jm_Law_law 325 [.retAddr f0, .ref r1, .ref r2, .int x3] [.retAddr fs0, .ref rs1] h = ev F lv jm_Law_law 326 [.retAddr f0, .ref r1, .ref r2, .int x3] [.int x3, .retAddr fs0, .ref rs1] h := ev_s rfl rfl rfl rfl
set_option maxRecDepth 50000 in
theorem s_Law_law_326 {F : jx_F} {lv : Nat} {h : jx_H} {f0 : Nat} {r1 : Nat} {r2 : Nat} {x3 : Int32} {xs0 : Int32} {fs1 : Nat} {rs2 : Nat} : ev F lv jm_Law_law 326 [.retAddr f0, .ref r1, .ref r2, .int x3] [.int xs0, .retAddr fs1, .ref rs2] h = ev F lv jm_Law_law 327 [.retAddr f0, .ref r1, .ref r2, .int x3] [.int 1, .int xs0, .retAddr fs1, .ref rs2] h := ev_s rfl rfl rfl rfl
set_option maxRecDepth 50000 in
theorem s_Law_law_327 {F : jx_F} {lv : Nat} {h : jx_H} {f0 : Nat} {r1 : Nat} {r2 : Nat} {x3 : Int32} {xs0 : Int32} {xs1 : Int32} {fs2 : Nat} {rs3 : Nat} : ev F lv jm_Law_law 327 [.retAddr f0, .ref r1, .ref r2, .int x3] [.int xs0, .int xs1, .retAddr fs2, .ref rs3] h = ev F lv jm_Law_law 328 [.retAddr f0, .ref r1, .ref r2, .int x3] [.int (xs1 + xs0), .retAddr fs2, .ref rs3] h := ev_s rfl rfl rfl rfl
set_option maxRecDepth 50000 in
theorem s_Law_law_328 {F : jx_F} {lv : Nat} {h : jx_H} {f0 : Nat} {r1 : Nat} {r2 : Nat} {x3 : Int32} {xs0 : Int32} {fs1 : Nat} {rs2 : Nat} : ev F lv jm_Law_law 328 [.retAddr f0, .ref r1, .ref r2, .int x3] [.int xs0, .retAddr fs1, .ref rs2] h = jx_gi F.1 0 fs1 xs0 fun v => ev F lv jm_Law_law 329 [.retAddr f0, .ref r1, .ref r2, .int x3] [.int v, .ref rs2] h := ev_gi rfl rfl rfl rfl
set_option maxRecDepth 50000 in
theorem s_Law_law_329 {F : jx_F} {lv : Nat} {h : jx_H} {f0 : Nat} {r1 : Nat} {r2 : Nat} {x3 : Int32} {xs0 : Int32} {rs1 : Nat} : ev F lv jm_Law_law 329 [.retAddr f0, .ref r1, .ref r2, .int x3] [.int xs0, .ref rs1] h = ev F lv jm_Law_law 330 [.retAddr f0, .ref r1, .ref r2, .int x3] [.retAddr f0, .int xs0, .ref rs1] h := ev_s rfl rfl rfl rfl
set_option maxRecDepth 50000 in
theorem s_Law_law_330 {F : jx_F} {lv : Nat} {h : jx_H} {f0 : Nat} {r1 : Nat} {r2 : Nat} {x3 : Int32} {fs0 : Nat} {xs1 : Int32} {rs2 : Nat} : ev F lv jm_Law_law 330 [.retAddr f0, .ref r1, .ref r2, .int x3] [.retAddr fs0, .int xs1, .ref rs2] h = ev F lv jm_Law_law 331 [.retAddr f0, .ref r1, .ref r2, .int x3] [.int x3, .retAddr fs0, .int xs1, .ref rs2] h := ev_s rfl rfl rfl rfl
set_option maxRecDepth 50000 in
theorem s_Law_law_331 {F : jx_F} {lv : Nat} {h : jx_H} {f0 : Nat} {r1 : Nat} {r2 : Nat} {x3 : Int32} {xs0 : Int32} {fs1 : Nat} {xs2 : Int32} {rs3 : Nat} : ev F lv jm_Law_law 331 [.retAddr f0, .ref r1, .ref r2, .int x3] [.int xs0, .retAddr fs1, .int xs2, .ref rs3] h = ev F lv jm_Law_law 332 [.retAddr f0, .ref r1, .ref r2, .int x3] [.int 2, .int xs0, .retAddr fs1, .int xs2, .ref rs3] h := ev_s rfl rfl rfl rfl
set_option maxRecDepth 50000 in
theorem s_Law_law_332 {F : jx_F} {lv : Nat} {h : jx_H} {f0 : Nat} {r1 : Nat} {r2 : Nat} {x3 : Int32} {xs0 : Int32} {xs1 : Int32} {fs2 : Nat} {xs3 : Int32} {rs4 : Nat} : ev F lv jm_Law_law 332 [.retAddr f0, .ref r1, .ref r2, .int x3] [.int xs0, .int xs1, .retAddr fs2, .int xs3, .ref rs4] h = ev F lv jm_Law_law 333 [.retAddr f0, .ref r1, .ref r2, .int x3] [.int (xs1 + xs0), .retAddr fs2, .int xs3, .ref rs4] h := ev_s rfl rfl rfl rfl
set_option maxRecDepth 50000 in
theorem s_Law_law_333 {F : jx_F} {lv : Nat} {h : jx_H} {f0 : Nat} {r1 : Nat} {r2 : Nat} {x3 : Int32} {xs0 : Int32} {fs1 : Nat} {xs2 : Int32} {rs3 : Nat} : ev F lv jm_Law_law 333 [.retAddr f0, .ref r1, .ref r2, .int x3] [.int xs0, .retAddr fs1, .int xs2, .ref rs3] h = jx_gi F.1 0 fs1 xs0 fun v => ev F lv jm_Law_law 334 [.retAddr f0, .ref r1, .ref r2, .int x3] [.int v, .int xs2, .ref rs3] h := ev_gi rfl rfl rfl rfl
set_option maxRecDepth 50000 in
theorem s_Law_law_334 {F : jx_F} {lv : Nat} {h : jx_H} {f0 : Nat} {r1 : Nat} {r2 : Nat} {x3 : Int32} {xs0 : Int32} {xs1 : Int32} {rs2 : Nat} (hr : jx_rcv F h 5 [.ref rs2, .int xs1, .int xs0] = true) : ev F (lv + 1) jm_Law_law 334 [.retAddr f0, .ref r1, .ref r2, .int x3] [.int xs0, .int xs1, .ref rs2] h = (rn F lv 70 [.ref rs2, .int xs1, .int xs0] h).bind fun q => ev F (lv + 1) jm_Law_law 337 [.retAddr f0, .ref r1, .ref r2, .int x3] (q.1.toList ++ []) q.2 := ev_cR rfl rfl rfl hr
set_option maxRecDepth 50000 in
theorem s_Law_law_337 {F : jx_F} {lv : Nat} {h : jx_H} {f0 : Nat} {r1 : Nat} {r2 : Nat} {x3 : Int32} {xs0 : Int32} : ev F lv jm_Law_law 337 [.retAddr f0, .ref r1, .ref r2, .int x3] [.int xs0] h = ev F lv jm_Law_law 338 [.retAddr f0, .ref r1, .ref r2, .int x3] [.ref r2, .int xs0] h := ev_s rfl rfl rfl rfl
set_option maxRecDepth 50000 in
theorem s_Law_law_338 {F : jx_F} {lv : Nat} {h : jx_H} {f0 : Nat} {r1 : Nat} {r2 : Nat} {x3 : Int32} {rs0 : Nat} {xs1 : Int32} : ev F lv jm_Law_law 338 [.retAddr f0, .ref r1, .ref r2, .int x3] [.ref rs0, .int xs1] h = ev F lv jm_Law_law 339 [.retAddr f0, .ref r1, .ref r2, .int x3] [.retAddr f0, .ref rs0, .int xs1] h := ev_s rfl rfl rfl rfl
set_option maxRecDepth 50000 in
theorem s_Law_law_339 {F : jx_F} {lv : Nat} {h : jx_H} {f0 : Nat} {r1 : Nat} {r2 : Nat} {x3 : Int32} {fs0 : Nat} {rs1 : Nat} {xs2 : Int32} : ev F lv jm_Law_law 339 [.retAddr f0, .ref r1, .ref r2, .int x3] [.retAddr fs0, .ref rs1, .int xs2] h = ev F lv jm_Law_law 340 [.retAddr f0, .ref r1, .ref r2, .int x3] [.int x3, .retAddr fs0, .ref rs1, .int xs2] h := ev_s rfl rfl rfl rfl
set_option maxRecDepth 50000 in
theorem s_Law_law_340 {F : jx_F} {lv : Nat} {h : jx_H} {f0 : Nat} {r1 : Nat} {r2 : Nat} {x3 : Int32} {xs0 : Int32} {fs1 : Nat} {rs2 : Nat} {xs3 : Int32} : ev F lv jm_Law_law 340 [.retAddr f0, .ref r1, .ref r2, .int x3] [.int xs0, .retAddr fs1, .ref rs2, .int xs3] h = ev F lv jm_Law_law 341 [.retAddr f0, .ref r1, .ref r2, .int x3] [.int 1, .int xs0, .retAddr fs1, .ref rs2, .int xs3] h := ev_s rfl rfl rfl rfl
set_option maxRecDepth 50000 in
theorem s_Law_law_341 {F : jx_F} {lv : Nat} {h : jx_H} {f0 : Nat} {r1 : Nat} {r2 : Nat} {x3 : Int32} {xs0 : Int32} {xs1 : Int32} {fs2 : Nat} {rs3 : Nat} {xs4 : Int32} : ev F lv jm_Law_law 341 [.retAddr f0, .ref r1, .ref r2, .int x3] [.int xs0, .int xs1, .retAddr fs2, .ref rs3, .int xs4] h = ev F lv jm_Law_law 342 [.retAddr f0, .ref r1, .ref r2, .int x3] [.int (xs1 + xs0), .retAddr fs2, .ref rs3, .int xs4] h := ev_s rfl rfl rfl rfl
set_option maxRecDepth 50000 in
theorem s_Law_law_342 {F : jx_F} {lv : Nat} {h : jx_H} {f0 : Nat} {r1 : Nat} {r2 : Nat} {x3 : Int32} {xs0 : Int32} {fs1 : Nat} {rs2 : Nat} {xs3 : Int32} : ev F lv jm_Law_law 342 [.retAddr f0, .ref r1, .ref r2, .int x3] [.int xs0, .retAddr fs1, .ref rs2, .int xs3] h = jx_gi F.1 0 fs1 xs0 fun v => ev F lv jm_Law_law 343 [.retAddr f0, .ref r1, .ref r2, .int x3] [.int v, .ref rs2, .int xs3] h := ev_gi rfl rfl rfl rfl
set_option maxRecDepth 50000 in
theorem s_Law_law_343 {F : jx_F} {lv : Nat} {h : jx_H} {f0 : Nat} {r1 : Nat} {r2 : Nat} {x3 : Int32} {xs0 : Int32} {rs1 : Nat} {xs2 : Int32} : ev F lv jm_Law_law 343 [.retAddr f0, .ref r1, .ref r2, .int x3] [.int xs0, .ref rs1, .int xs2] h = ev F lv jm_Law_law 344 [.retAddr f0, .ref r1, .ref r2, .int x3] [.retAddr f0, .int xs0, .ref rs1, .int xs2] h := ev_s rfl rfl rfl rfl
set_option maxRecDepth 50000 in
theorem s_Law_law_344 {F : jx_F} {lv : Nat} {h : jx_H} {f0 : Nat} {r1 : Nat} {r2 : Nat} {x3 : Int32} {fs0 : Nat} {xs1 : Int32} {rs2 : Nat} {xs3 : Int32} : ev F lv jm_Law_law 344 [.retAddr f0, .ref r1, .ref r2, .int x3] [.retAddr fs0, .int xs1, .ref rs2, .int xs3] h = ev F lv jm_Law_law 345 [.retAddr f0, .ref r1, .ref r2, .int x3] [.int x3, .retAddr fs0, .int xs1, .ref rs2, .int xs3] h := ev_s rfl rfl rfl rfl
set_option maxRecDepth 50000 in
theorem s_Law_law_345 {F : jx_F} {lv : Nat} {h : jx_H} {f0 : Nat} {r1 : Nat} {r2 : Nat} {x3 : Int32} {xs0 : Int32} {fs1 : Nat} {xs2 : Int32} {rs3 : Nat} {xs4 : Int32} : ev F lv jm_Law_law 345 [.retAddr f0, .ref r1, .ref r2, .int x3] [.int xs0, .retAddr fs1, .int xs2, .ref rs3, .int xs4] h = ev F lv jm_Law_law 346 [.retAddr f0, .ref r1, .ref r2, .int x3] [.int 2, .int xs0, .retAddr fs1, .int xs2, .ref rs3, .int xs4] h := ev_s rfl rfl rfl rfl
set_option maxRecDepth 50000 in
theorem s_Law_law_346 {F : jx_F} {lv : Nat} {h : jx_H} {f0 : Nat} {r1 : Nat} {r2 : Nat} {x3 : Int32} {xs0 : Int32} {xs1 : Int32} {fs2 : Nat} {xs3 : Int32} {rs4 : Nat} {xs5 : Int32} : ev F lv jm_Law_law 346 [.retAddr f0, .ref r1, .ref r2, .int x3] [.int xs0, .int xs1, .retAddr fs2, .int xs3, .ref rs4, .int xs5] h = ev F lv jm_Law_law 347 [.retAddr f0, .ref r1, .ref r2, .int x3] [.int (xs1 + xs0), .retAddr fs2, .int xs3, .ref rs4, .int xs5] h := ev_s rfl rfl rfl rfl
set_option maxRecDepth 50000 in
theorem s_Law_law_347 {F : jx_F} {lv : Nat} {h : jx_H} {f0 : Nat} {r1 : Nat} {r2 : Nat} {x3 : Int32} {xs0 : Int32} {fs1 : Nat} {xs2 : Int32} {rs3 : Nat} {xs4 : Int32} : ev F lv jm_Law_law 347 [.retAddr f0, .ref r1, .ref r2, .int x3] [.int xs0, .retAddr fs1, .int xs2, .ref rs3, .int xs4] h = jx_gi F.1 0 fs1 xs0 fun v => ev F lv jm_Law_law 348 [.retAddr f0, .ref r1, .ref r2, .int x3] [.int v, .int xs2, .ref rs3, .int xs4] h := ev_gi rfl rfl rfl rfl
set_option maxRecDepth 50000 in
theorem s_Law_law_348 {F : jx_F} {lv : Nat} {h : jx_H} {f0 : Nat} {r1 : Nat} {r2 : Nat} {x3 : Int32} {xs0 : Int32} {xs1 : Int32} {rs2 : Nat} {xs3 : Int32} (hr : jx_rcv F h 6 [.ref rs2, .int xs1, .int xs0] = true) : ev F (lv + 1) jm_Law_law 348 [.retAddr f0, .ref r1, .ref r2, .int x3] [.int xs0, .int xs1, .ref rs2, .int xs3] h = (rn F lv 138 [.ref rs2, .int xs1, .int xs0] h).bind fun q => ev F (lv + 1) jm_Law_law 351 [.retAddr f0, .ref r1, .ref r2, .int x3] (q.1.toList ++ [.int xs3]) q.2 := ev_cR rfl rfl rfl hr
set_option maxRecDepth 50000 in
theorem s_Law_law_351 {F : jx_F} {lv : Nat} {h : jx_H} {f0 : Nat} {r1 : Nat} {r2 : Nat} {x3 : Int32} {xs0 : Int32} {xs1 : Int32} : ev F lv jm_Law_law 351 [.retAddr f0, .ref r1, .ref r2, .int x3] [.int xs0, .int xs1] h = if xs1 = xs0 then ev F lv jm_Law_law 1045 [.retAddr f0, .ref r1, .ref r2, .int x3] [] h else ev F lv jm_Law_law 354 [.retAddr f0, .ref r1, .ref r2, .int x3] [] h := ev_b (off := 694) (b := jx_cmpB .eq xs1 xs0) rfl rfl rfl rfl rfl (by decide)
set_option maxRecDepth 50000 in
theorem s_Law_law_354 {F : jx_F} {lv : Nat} {h : jx_H} {f0 : Nat} {r1 : Nat} {r2 : Nat} {x3 : Int32} : ev F lv jm_Law_law 354 [.retAddr f0, .ref r1, .ref r2, .int x3] [] h = ev F lv jm_Law_law 355 [.retAddr f0, .ref r1, .ref r2, .int x3] [.int 0] h := ev_s rfl rfl rfl rfl
set_option maxRecDepth 50000 in
theorem s_Law_law_355 {F : jx_F} {lv : Nat} {h : jx_H} {f0 : Nat} {r1 : Nat} {r2 : Nat} {x3 : Int32} {xs0 : Int32} (hb : jx_ret1 4 xs0 = true) : ev F lv jm_Law_law 355 [.retAddr f0, .ref r1, .ref r2, .int x3] [.int xs0] h = some (some (.int xs0), h) := ev_rB rfl rfl hb
set_option maxRecDepth 50000 in
theorem s_Law_law_356 {F : jx_F} {lv : Nat} {h : jx_H} {f0 : Nat} {r1 : Nat} {r2 : Nat} {x3 : Int32} : ev F lv jm_Law_law 356 [.retAddr f0, .ref r1, .ref r2, .int x3] [] h = ev F lv jm_Law_law 357 [.retAddr f0, .ref r1, .ref r2, .int x3] [.ref r1] h := ev_s rfl rfl rfl rfl
set_option maxRecDepth 50000 in
theorem s_Law_law_357 {F : jx_F} {lv : Nat} {h : jx_H} {f0 : Nat} {r1 : Nat} {r2 : Nat} {x3 : Int32} {rs0 : Nat} : ev F lv jm_Law_law 357 [.retAddr f0, .ref r1, .ref r2, .int x3] [.ref rs0] h = ev F lv jm_Law_law 358 [.retAddr f0, .ref r1, .ref r2, .int x3] [.retAddr f0, .ref rs0] h := ev_s rfl rfl rfl rfl
set_option maxRecDepth 50000 in
theorem s_Law_law_358 {F : jx_F} {lv : Nat} {h : jx_H} {f0 : Nat} {r1 : Nat} {r2 : Nat} {x3 : Int32} {fs0 : Nat} {rs1 : Nat} : ev F lv jm_Law_law 358 [.retAddr f0, .ref r1, .ref r2, .int x3] [.retAddr fs0, .ref rs1] h = ev F lv jm_Law_law 359 [.retAddr f0, .ref r1, .ref r2, .int x3] [.int x3, .retAddr fs0, .ref rs1] h := ev_s rfl rfl rfl rfl
set_option maxRecDepth 50000 in
theorem s_Law_law_359 {F : jx_F} {lv : Nat} {h : jx_H} {f0 : Nat} {r1 : Nat} {r2 : Nat} {x3 : Int32} {xs0 : Int32} {fs1 : Nat} {rs2 : Nat} : ev F lv jm_Law_law 359 [.retAddr f0, .ref r1, .ref r2, .int x3] [.int xs0, .retAddr fs1, .ref rs2] h = ev F lv jm_Law_law 360 [.retAddr f0, .ref r1, .ref r2, .int x3] [.int 1, .int xs0, .retAddr fs1, .ref rs2] h := ev_s rfl rfl rfl rfl
set_option maxRecDepth 50000 in
theorem s_Law_law_360 {F : jx_F} {lv : Nat} {h : jx_H} {f0 : Nat} {r1 : Nat} {r2 : Nat} {x3 : Int32} {xs0 : Int32} {xs1 : Int32} {fs2 : Nat} {rs3 : Nat} : ev F lv jm_Law_law 360 [.retAddr f0, .ref r1, .ref r2, .int x3] [.int xs0, .int xs1, .retAddr fs2, .ref rs3] h = ev F lv jm_Law_law 361 [.retAddr f0, .ref r1, .ref r2, .int x3] [.int (xs1 + xs0), .retAddr fs2, .ref rs3] h := ev_s rfl rfl rfl rfl
set_option maxRecDepth 50000 in
theorem s_Law_law_361 {F : jx_F} {lv : Nat} {h : jx_H} {f0 : Nat} {r1 : Nat} {r2 : Nat} {x3 : Int32} {xs0 : Int32} {fs1 : Nat} {rs2 : Nat} : ev F lv jm_Law_law 361 [.retAddr f0, .ref r1, .ref r2, .int x3] [.int xs0, .retAddr fs1, .ref rs2] h = jx_gi F.1 0 fs1 xs0 fun v => ev F lv jm_Law_law 362 [.retAddr f0, .ref r1, .ref r2, .int x3] [.int v, .ref rs2] h := ev_gi rfl rfl rfl rfl
set_option maxRecDepth 50000 in
theorem s_Law_law_362 {F : jx_F} {lv : Nat} {h : jx_H} {f0 : Nat} {r1 : Nat} {r2 : Nat} {x3 : Int32} {xs0 : Int32} {rs1 : Nat} : ev F lv jm_Law_law 362 [.retAddr f0, .ref r1, .ref r2, .int x3] [.int xs0, .ref rs1] h = ev F lv jm_Law_law 363 [.retAddr f0, .ref r1, .ref r2, .int x3] [.retAddr f0, .int xs0, .ref rs1] h := ev_s rfl rfl rfl rfl
set_option maxRecDepth 50000 in
theorem s_Law_law_363 {F : jx_F} {lv : Nat} {h : jx_H} {f0 : Nat} {r1 : Nat} {r2 : Nat} {x3 : Int32} {fs0 : Nat} {xs1 : Int32} {rs2 : Nat} : ev F lv jm_Law_law 363 [.retAddr f0, .ref r1, .ref r2, .int x3] [.retAddr fs0, .int xs1, .ref rs2] h = ev F lv jm_Law_law 364 [.retAddr f0, .ref r1, .ref r2, .int x3] [.int x3, .retAddr fs0, .int xs1, .ref rs2] h := ev_s rfl rfl rfl rfl
set_option maxRecDepth 50000 in
theorem s_Law_law_364 {F : jx_F} {lv : Nat} {h : jx_H} {f0 : Nat} {r1 : Nat} {r2 : Nat} {x3 : Int32} {xs0 : Int32} {fs1 : Nat} {xs2 : Int32} {rs3 : Nat} : ev F lv jm_Law_law 364 [.retAddr f0, .ref r1, .ref r2, .int x3] [.int xs0, .retAddr fs1, .int xs2, .ref rs3] h = ev F lv jm_Law_law 365 [.retAddr f0, .ref r1, .ref r2, .int x3] [.int 2, .int xs0, .retAddr fs1, .int xs2, .ref rs3] h := ev_s rfl rfl rfl rfl
set_option maxRecDepth 50000 in
theorem s_Law_law_365 {F : jx_F} {lv : Nat} {h : jx_H} {f0 : Nat} {r1 : Nat} {r2 : Nat} {x3 : Int32} {xs0 : Int32} {xs1 : Int32} {fs2 : Nat} {xs3 : Int32} {rs4 : Nat} : ev F lv jm_Law_law 365 [.retAddr f0, .ref r1, .ref r2, .int x3] [.int xs0, .int xs1, .retAddr fs2, .int xs3, .ref rs4] h = ev F lv jm_Law_law 366 [.retAddr f0, .ref r1, .ref r2, .int x3] [.int (xs1 + xs0), .retAddr fs2, .int xs3, .ref rs4] h := ev_s rfl rfl rfl rfl
set_option maxRecDepth 50000 in
theorem s_Law_law_366 {F : jx_F} {lv : Nat} {h : jx_H} {f0 : Nat} {r1 : Nat} {r2 : Nat} {x3 : Int32} {xs0 : Int32} {fs1 : Nat} {xs2 : Int32} {rs3 : Nat} : ev F lv jm_Law_law 366 [.retAddr f0, .ref r1, .ref r2, .int x3] [.int xs0, .retAddr fs1, .int xs2, .ref rs3] h = jx_gi F.1 0 fs1 xs0 fun v => ev F lv jm_Law_law 367 [.retAddr f0, .ref r1, .ref r2, .int x3] [.int v, .int xs2, .ref rs3] h := ev_gi rfl rfl rfl rfl
set_option maxRecDepth 50000 in
theorem s_Law_law_367 {F : jx_F} {lv : Nat} {h : jx_H} {f0 : Nat} {r1 : Nat} {r2 : Nat} {x3 : Int32} {xs0 : Int32} {xs1 : Int32} {rs2 : Nat} (hr : jx_rcv F h 5 [.ref rs2, .int xs1, .int xs0] = true) : ev F (lv + 1) jm_Law_law 367 [.retAddr f0, .ref r1, .ref r2, .int x3] [.int xs0, .int xs1, .ref rs2] h = (rn F lv 71 [.ref rs2, .int xs1, .int xs0] h).bind fun q => ev F (lv + 1) jm_Law_law 370 [.retAddr f0, .ref r1, .ref r2, .int x3] (q.1.toList ++ []) q.2 := ev_cR rfl rfl rfl hr
set_option maxRecDepth 50000 in
theorem s_Law_law_370 {F : jx_F} {lv : Nat} {h : jx_H} {f0 : Nat} {r1 : Nat} {r2 : Nat} {x3 : Int32} {xs0 : Int32} : ev F lv jm_Law_law 370 [.retAddr f0, .ref r1, .ref r2, .int x3] [.int xs0] h = ev F lv jm_Law_law 371 [.retAddr f0, .ref r1, .ref r2, .int x3] [.ref r2, .int xs0] h := ev_s rfl rfl rfl rfl
set_option maxRecDepth 50000 in
theorem s_Law_law_371 {F : jx_F} {lv : Nat} {h : jx_H} {f0 : Nat} {r1 : Nat} {r2 : Nat} {x3 : Int32} {rs0 : Nat} {xs1 : Int32} : ev F lv jm_Law_law 371 [.retAddr f0, .ref r1, .ref r2, .int x3] [.ref rs0, .int xs1] h = ev F lv jm_Law_law 372 [.retAddr f0, .ref r1, .ref r2, .int x3] [.retAddr f0, .ref rs0, .int xs1] h := ev_s rfl rfl rfl rfl
set_option maxRecDepth 50000 in
theorem s_Law_law_372 {F : jx_F} {lv : Nat} {h : jx_H} {f0 : Nat} {r1 : Nat} {r2 : Nat} {x3 : Int32} {fs0 : Nat} {rs1 : Nat} {xs2 : Int32} : ev F lv jm_Law_law 372 [.retAddr f0, .ref r1, .ref r2, .int x3] [.retAddr fs0, .ref rs1, .int xs2] h = ev F lv jm_Law_law 373 [.retAddr f0, .ref r1, .ref r2, .int x3] [.int x3, .retAddr fs0, .ref rs1, .int xs2] h := ev_s rfl rfl rfl rfl
set_option maxRecDepth 50000 in
theorem s_Law_law_373 {F : jx_F} {lv : Nat} {h : jx_H} {f0 : Nat} {r1 : Nat} {r2 : Nat} {x3 : Int32} {xs0 : Int32} {fs1 : Nat} {rs2 : Nat} {xs3 : Int32} : ev F lv jm_Law_law 373 [.retAddr f0, .ref r1, .ref r2, .int x3] [.int xs0, .retAddr fs1, .ref rs2, .int xs3] h = ev F lv jm_Law_law 374 [.retAddr f0, .ref r1, .ref r2, .int x3] [.int 1, .int xs0, .retAddr fs1, .ref rs2, .int xs3] h := ev_s rfl rfl rfl rfl
set_option maxRecDepth 50000 in
theorem s_Law_law_374 {F : jx_F} {lv : Nat} {h : jx_H} {f0 : Nat} {r1 : Nat} {r2 : Nat} {x3 : Int32} {xs0 : Int32} {xs1 : Int32} {fs2 : Nat} {rs3 : Nat} {xs4 : Int32} : ev F lv jm_Law_law 374 [.retAddr f0, .ref r1, .ref r2, .int x3] [.int xs0, .int xs1, .retAddr fs2, .ref rs3, .int xs4] h = ev F lv jm_Law_law 375 [.retAddr f0, .ref r1, .ref r2, .int x3] [.int (xs1 + xs0), .retAddr fs2, .ref rs3, .int xs4] h := ev_s rfl rfl rfl rfl
set_option maxRecDepth 50000 in
theorem s_Law_law_375 {F : jx_F} {lv : Nat} {h : jx_H} {f0 : Nat} {r1 : Nat} {r2 : Nat} {x3 : Int32} {xs0 : Int32} {fs1 : Nat} {rs2 : Nat} {xs3 : Int32} : ev F lv jm_Law_law 375 [.retAddr f0, .ref r1, .ref r2, .int x3] [.int xs0, .retAddr fs1, .ref rs2, .int xs3] h = jx_gi F.1 0 fs1 xs0 fun v => ev F lv jm_Law_law 376 [.retAddr f0, .ref r1, .ref r2, .int x3] [.int v, .ref rs2, .int xs3] h := ev_gi rfl rfl rfl rfl
set_option maxRecDepth 50000 in
theorem s_Law_law_376 {F : jx_F} {lv : Nat} {h : jx_H} {f0 : Nat} {r1 : Nat} {r2 : Nat} {x3 : Int32} {xs0 : Int32} {rs1 : Nat} {xs2 : Int32} : ev F lv jm_Law_law 376 [.retAddr f0, .ref r1, .ref r2, .int x3] [.int xs0, .ref rs1, .int xs2] h = ev F lv jm_Law_law 377 [.retAddr f0, .ref r1, .ref r2, .int x3] [.retAddr f0, .int xs0, .ref rs1, .int xs2] h := ev_s rfl rfl rfl rfl
set_option maxRecDepth 50000 in
theorem s_Law_law_377 {F : jx_F} {lv : Nat} {h : jx_H} {f0 : Nat} {r1 : Nat} {r2 : Nat} {x3 : Int32} {fs0 : Nat} {xs1 : Int32} {rs2 : Nat} {xs3 : Int32} : ev F lv jm_Law_law 377 [.retAddr f0, .ref r1, .ref r2, .int x3] [.retAddr fs0, .int xs1, .ref rs2, .int xs3] h = ev F lv jm_Law_law 378 [.retAddr f0, .ref r1, .ref r2, .int x3] [.int x3, .retAddr fs0, .int xs1, .ref rs2, .int xs3] h := ev_s rfl rfl rfl rfl
set_option maxRecDepth 50000 in
theorem s_Law_law_378 {F : jx_F} {lv : Nat} {h : jx_H} {f0 : Nat} {r1 : Nat} {r2 : Nat} {x3 : Int32} {xs0 : Int32} {fs1 : Nat} {xs2 : Int32} {rs3 : Nat} {xs4 : Int32} : ev F lv jm_Law_law 378 [.retAddr f0, .ref r1, .ref r2, .int x3] [.int xs0, .retAddr fs1, .int xs2, .ref rs3, .int xs4] h = ev F lv jm_Law_law 379 [.retAddr f0, .ref r1, .ref r2, .int x3] [.int 2, .int xs0, .retAddr fs1, .int xs2, .ref rs3, .int xs4] h := ev_s rfl rfl rfl rfl
set_option maxRecDepth 50000 in
theorem s_Law_law_379 {F : jx_F} {lv : Nat} {h : jx_H} {f0 : Nat} {r1 : Nat} {r2 : Nat} {x3 : Int32} {xs0 : Int32} {xs1 : Int32} {fs2 : Nat} {xs3 : Int32} {rs4 : Nat} {xs5 : Int32} : ev F lv jm_Law_law 379 [.retAddr f0, .ref r1, .ref r2, .int x3] [.int xs0, .int xs1, .retAddr fs2, .int xs3, .ref rs4, .int xs5] h = ev F lv jm_Law_law 380 [.retAddr f0, .ref r1, .ref r2, .int x3] [.int (xs1 + xs0), .retAddr fs2, .int xs3, .ref rs4, .int xs5] h := ev_s rfl rfl rfl rfl
set_option maxRecDepth 50000 in
theorem s_Law_law_380 {F : jx_F} {lv : Nat} {h : jx_H} {f0 : Nat} {r1 : Nat} {r2 : Nat} {x3 : Int32} {xs0 : Int32} {fs1 : Nat} {xs2 : Int32} {rs3 : Nat} {xs4 : Int32} : ev F lv jm_Law_law 380 [.retAddr f0, .ref r1, .ref r2, .int x3] [.int xs0, .retAddr fs1, .int xs2, .ref rs3, .int xs4] h = jx_gi F.1 0 fs1 xs0 fun v => ev F lv jm_Law_law 381 [.retAddr f0, .ref r1, .ref r2, .int x3] [.int v, .int xs2, .ref rs3, .int xs4] h := ev_gi rfl rfl rfl rfl
set_option maxRecDepth 50000 in
theorem s_Law_law_381 {F : jx_F} {lv : Nat} {h : jx_H} {f0 : Nat} {r1 : Nat} {r2 : Nat} {x3 : Int32} {xs0 : Int32} {xs1 : Int32} {rs2 : Nat} {xs3 : Int32} (hr : jx_rcv F h 6 [.ref rs2, .int xs1, .int xs0] = true) : ev F (lv + 1) jm_Law_law 381 [.retAddr f0, .ref r1, .ref r2, .int x3] [.int xs0, .int xs1, .ref rs2, .int xs3] h = (rn F lv 139 [.ref rs2, .int xs1, .int xs0] h).bind fun q => ev F (lv + 1) jm_Law_law 384 [.retAddr f0, .ref r1, .ref r2, .int x3] (q.1.toList ++ [.int xs3]) q.2 := ev_cR rfl rfl rfl hr
set_option maxRecDepth 50000 in
theorem s_Law_law_384 {F : jx_F} {lv : Nat} {h : jx_H} {f0 : Nat} {r1 : Nat} {r2 : Nat} {x3 : Int32} {xs0 : Int32} {xs1 : Int32} : ev F lv jm_Law_law 384 [.retAddr f0, .ref r1, .ref r2, .int x3] [.int xs0, .int xs1] h = if xs1 = xs0 then ev F lv jm_Law_law 1045 [.retAddr f0, .ref r1, .ref r2, .int x3] [] h else ev F lv jm_Law_law 387 [.retAddr f0, .ref r1, .ref r2, .int x3] [] h := ev_b (off := 661) (b := jx_cmpB .eq xs1 xs0) rfl rfl rfl rfl rfl (by decide)
set_option maxRecDepth 50000 in
theorem s_Law_law_387 {F : jx_F} {lv : Nat} {h : jx_H} {f0 : Nat} {r1 : Nat} {r2 : Nat} {x3 : Int32} : ev F lv jm_Law_law 387 [.retAddr f0, .ref r1, .ref r2, .int x3] [] h = ev F lv jm_Law_law 388 [.retAddr f0, .ref r1, .ref r2, .int x3] [.int 0] h := ev_s rfl rfl rfl rfl
set_option maxRecDepth 50000 in
theorem s_Law_law_388 {F : jx_F} {lv : Nat} {h : jx_H} {f0 : Nat} {r1 : Nat} {r2 : Nat} {x3 : Int32} {xs0 : Int32} (hb : jx_ret1 4 xs0 = true) : ev F lv jm_Law_law 388 [.retAddr f0, .ref r1, .ref r2, .int x3] [.int xs0] h = some (some (.int xs0), h) := ev_rB rfl rfl hb
set_option maxRecDepth 50000 in
theorem s_Law_law_389 {F : jx_F} {lv : Nat} {h : jx_H} {f0 : Nat} {r1 : Nat} {r2 : Nat} {x3 : Int32} : ev F lv jm_Law_law 389 [.retAddr f0, .ref r1, .ref r2, .int x3] [] h = ev F lv jm_Law_law 390 [.retAddr f0, .ref r1, .ref r2, .int x3] [.ref r1] h := ev_s rfl rfl rfl rfl
set_option maxRecDepth 50000 in
theorem s_Law_law_390 {F : jx_F} {lv : Nat} {h : jx_H} {f0 : Nat} {r1 : Nat} {r2 : Nat} {x3 : Int32} {rs0 : Nat} (hr : jx_rcv F h 5 [.ref rs0] = true) : ev F (lv + 1) jm_Law_law 390 [.retAddr f0, .ref r1, .ref r2, .int x3] [.ref rs0] h = (rn F lv 72 [.ref rs0] h).bind fun q => ev F (lv + 1) jm_Law_law 393 [.retAddr f0, .ref r1, .ref r2, .int x3] (q.1.toList ++ []) q.2 := ev_cR rfl rfl rfl hr
set_option maxRecDepth 50000 in
theorem s_Law_law_393 {F : jx_F} {lv : Nat} {h : jx_H} {f0 : Nat} {r1 : Nat} {r2 : Nat} {x3 : Int32} {xs0 : Int32} : ev F lv jm_Law_law 393 [.retAddr f0, .ref r1, .ref r2, .int x3] [.int xs0] h = ev F lv jm_Law_law 394 [.retAddr f0, .ref r1, .ref r2, .int x3] [.ref r2, .int xs0] h := ev_s rfl rfl rfl rfl
set_option maxRecDepth 50000 in
theorem s_Law_law_394 {F : jx_F} {lv : Nat} {h : jx_H} {f0 : Nat} {r1 : Nat} {r2 : Nat} {x3 : Int32} {rs0 : Nat} {xs1 : Int32} (hr : jx_rcv F h 6 [.ref rs0] = true) : ev F (lv + 1) jm_Law_law 394 [.retAddr f0, .ref r1, .ref r2, .int x3] [.ref rs0, .int xs1] h = (rn F lv 140 [.ref rs0] h).bind fun q => ev F (lv + 1) jm_Law_law 397 [.retAddr f0, .ref r1, .ref r2, .int x3] (q.1.toList ++ [.int xs1]) q.2 := ev_cR rfl rfl rfl hr
set_option maxRecDepth 50000 in
theorem s_Law_law_397 {F : jx_F} {lv : Nat} {h : jx_H} {f0 : Nat} {r1 : Nat} {r2 : Nat} {x3 : Int32} {xs0 : Int32} {xs1 : Int32} : ev F lv jm_Law_law 397 [.retAddr f0, .ref r1, .ref r2, .int x3] [.int xs0, .int xs1] h = if xs1 = xs0 then ev F lv jm_Law_law 1045 [.retAddr f0, .ref r1, .ref r2, .int x3] [] h else ev F lv jm_Law_law 400 [.retAddr f0, .ref r1, .ref r2, .int x3] [] h := ev_b (off := 648) (b := jx_cmpB .eq xs1 xs0) rfl rfl rfl rfl rfl (by decide)
set_option maxRecDepth 50000 in
theorem s_Law_law_400 {F : jx_F} {lv : Nat} {h : jx_H} {f0 : Nat} {r1 : Nat} {r2 : Nat} {x3 : Int32} : ev F lv jm_Law_law 400 [.retAddr f0, .ref r1, .ref r2, .int x3] [] h = ev F lv jm_Law_law 401 [.retAddr f0, .ref r1, .ref r2, .int x3] [.int 0] h := ev_s rfl rfl rfl rfl
set_option maxRecDepth 50000 in
theorem s_Law_law_401 {F : jx_F} {lv : Nat} {h : jx_H} {f0 : Nat} {r1 : Nat} {r2 : Nat} {x3 : Int32} {xs0 : Int32} (hb : jx_ret1 4 xs0 = true) : ev F lv jm_Law_law 401 [.retAddr f0, .ref r1, .ref r2, .int x3] [.int xs0] h = some (some (.int xs0), h) := ev_rB rfl rfl hb
set_option maxRecDepth 50000 in
theorem s_Law_law_402 {F : jx_F} {lv : Nat} {h : jx_H} {f0 : Nat} {r1 : Nat} {r2 : Nat} {x3 : Int32} : ev F lv jm_Law_law 402 [.retAddr f0, .ref r1, .ref r2, .int x3] [] h = ev F lv jm_Law_law 403 [.retAddr f0, .ref r1, .ref r2, .int x3] [.ref r1] h := ev_s rfl rfl rfl rfl
set_option maxRecDepth 50000 in
theorem s_Law_law_403 {F : jx_F} {lv : Nat} {h : jx_H} {f0 : Nat} {r1 : Nat} {r2 : Nat} {x3 : Int32} {rs0 : Nat} : ev F lv jm_Law_law 403 [.retAddr f0, .ref r1, .ref r2, .int x3] [.ref rs0] h = ev F lv jm_Law_law 404 [.retAddr f0, .ref r1, .ref r2, .int x3] [.retAddr f0, .ref rs0] h := ev_s rfl rfl rfl rfl
set_option maxRecDepth 50000 in
theorem s_Law_law_404 {F : jx_F} {lv : Nat} {h : jx_H} {f0 : Nat} {r1 : Nat} {r2 : Nat} {x3 : Int32} {fs0 : Nat} {rs1 : Nat} : ev F lv jm_Law_law 404 [.retAddr f0, .ref r1, .ref r2, .int x3] [.retAddr fs0, .ref rs1] h = ev F lv jm_Law_law 405 [.retAddr f0, .ref r1, .ref r2, .int x3] [.int x3, .retAddr fs0, .ref rs1] h := ev_s rfl rfl rfl rfl
set_option maxRecDepth 50000 in
theorem s_Law_law_405 {F : jx_F} {lv : Nat} {h : jx_H} {f0 : Nat} {r1 : Nat} {r2 : Nat} {x3 : Int32} {xs0 : Int32} {fs1 : Nat} {rs2 : Nat} : ev F lv jm_Law_law 405 [.retAddr f0, .ref r1, .ref r2, .int x3] [.int xs0, .retAddr fs1, .ref rs2] h = ev F lv jm_Law_law 406 [.retAddr f0, .ref r1, .ref r2, .int x3] [.int 1, .int xs0, .retAddr fs1, .ref rs2] h := ev_s rfl rfl rfl rfl
set_option maxRecDepth 50000 in
theorem s_Law_law_406 {F : jx_F} {lv : Nat} {h : jx_H} {f0 : Nat} {r1 : Nat} {r2 : Nat} {x3 : Int32} {xs0 : Int32} {xs1 : Int32} {fs2 : Nat} {rs3 : Nat} : ev F lv jm_Law_law 406 [.retAddr f0, .ref r1, .ref r2, .int x3] [.int xs0, .int xs1, .retAddr fs2, .ref rs3] h = ev F lv jm_Law_law 407 [.retAddr f0, .ref r1, .ref r2, .int x3] [.int (xs1 + xs0), .retAddr fs2, .ref rs3] h := ev_s rfl rfl rfl rfl
set_option maxRecDepth 50000 in
theorem s_Law_law_407 {F : jx_F} {lv : Nat} {h : jx_H} {f0 : Nat} {r1 : Nat} {r2 : Nat} {x3 : Int32} {xs0 : Int32} {fs1 : Nat} {rs2 : Nat} : ev F lv jm_Law_law 407 [.retAddr f0, .ref r1, .ref r2, .int x3] [.int xs0, .retAddr fs1, .ref rs2] h = jx_gi F.1 0 fs1 xs0 fun v => ev F lv jm_Law_law 408 [.retAddr f0, .ref r1, .ref r2, .int x3] [.int v, .ref rs2] h := ev_gi rfl rfl rfl rfl
set_option maxRecDepth 50000 in
theorem s_Law_law_408 {F : jx_F} {lv : Nat} {h : jx_H} {f0 : Nat} {r1 : Nat} {r2 : Nat} {x3 : Int32} {xs0 : Int32} {rs1 : Nat} (hr : jx_rcv F h 5 [.ref rs1, .int xs0] = true) : ev F (lv + 1) jm_Law_law 408 [.retAddr f0, .ref r1, .ref r2, .int x3] [.int xs0, .ref rs1] h = (rn F lv 73 [.ref rs1, .int xs0] h).bind fun q => ev F (lv + 1) jm_Law_law 411 [.retAddr f0, .ref r1, .ref r2, .int x3] (q.1.toList ++ []) q.2 := ev_cR rfl rfl rfl hr
set_option maxRecDepth 50000 in
theorem s_Law_law_411 {F : jx_F} {lv : Nat} {h : jx_H} {f0 : Nat} {r1 : Nat} {r2 : Nat} {x3 : Int32} {xs0 : Int32} : ev F lv jm_Law_law 411 [.retAddr f0, .ref r1, .ref r2, .int x3] [.int xs0] h = ev F lv jm_Law_law 412 [.retAddr f0, .ref r1, .ref r2, .int x3] [.ref r2, .int xs0] h := ev_s rfl rfl rfl rfl
set_option maxRecDepth 50000 in
theorem s_Law_law_412 {F : jx_F} {lv : Nat} {h : jx_H} {f0 : Nat} {r1 : Nat} {r2 : Nat} {x3 : Int32} {rs0 : Nat} {xs1 : Int32} : ev F lv jm_Law_law 412 [.retAddr f0, .ref r1, .ref r2, .int x3] [.ref rs0, .int xs1] h = ev F lv jm_Law_law 413 [.retAddr f0, .ref r1, .ref r2, .int x3] [.retAddr f0, .ref rs0, .int xs1] h := ev_s rfl rfl rfl rfl
set_option maxRecDepth 50000 in
theorem s_Law_law_413 {F : jx_F} {lv : Nat} {h : jx_H} {f0 : Nat} {r1 : Nat} {r2 : Nat} {x3 : Int32} {fs0 : Nat} {rs1 : Nat} {xs2 : Int32} : ev F lv jm_Law_law 413 [.retAddr f0, .ref r1, .ref r2, .int x3] [.retAddr fs0, .ref rs1, .int xs2] h = ev F lv jm_Law_law 414 [.retAddr f0, .ref r1, .ref r2, .int x3] [.int x3, .retAddr fs0, .ref rs1, .int xs2] h := ev_s rfl rfl rfl rfl
set_option maxRecDepth 50000 in
theorem s_Law_law_414 {F : jx_F} {lv : Nat} {h : jx_H} {f0 : Nat} {r1 : Nat} {r2 : Nat} {x3 : Int32} {xs0 : Int32} {fs1 : Nat} {rs2 : Nat} {xs3 : Int32} : ev F lv jm_Law_law 414 [.retAddr f0, .ref r1, .ref r2, .int x3] [.int xs0, .retAddr fs1, .ref rs2, .int xs3] h = ev F lv jm_Law_law 415 [.retAddr f0, .ref r1, .ref r2, .int x3] [.int 1, .int xs0, .retAddr fs1, .ref rs2, .int xs3] h := ev_s rfl rfl rfl rfl
set_option maxRecDepth 50000 in
theorem s_Law_law_415 {F : jx_F} {lv : Nat} {h : jx_H} {f0 : Nat} {r1 : Nat} {r2 : Nat} {x3 : Int32} {xs0 : Int32} {xs1 : Int32} {fs2 : Nat} {rs3 : Nat} {xs4 : Int32} : ev F lv jm_Law_law 415 [.retAddr f0, .ref r1, .ref r2, .int x3] [.int xs0, .int xs1, .retAddr fs2, .ref rs3, .int xs4] h = ev F lv jm_Law_law 416 [.retAddr f0, .ref r1, .ref r2, .int x3] [.int (xs1 + xs0), .retAddr fs2, .ref rs3, .int xs4] h := ev_s rfl rfl rfl rfl
set_option maxRecDepth 50000 in
theorem s_Law_law_416 {F : jx_F} {lv : Nat} {h : jx_H} {f0 : Nat} {r1 : Nat} {r2 : Nat} {x3 : Int32} {xs0 : Int32} {fs1 : Nat} {rs2 : Nat} {xs3 : Int32} : ev F lv jm_Law_law 416 [.retAddr f0, .ref r1, .ref r2, .int x3] [.int xs0, .retAddr fs1, .ref rs2, .int xs3] h = jx_gi F.1 0 fs1 xs0 fun v => ev F lv jm_Law_law 417 [.retAddr f0, .ref r1, .ref r2, .int x3] [.int v, .ref rs2, .int xs3] h := ev_gi rfl rfl rfl rfl
set_option maxRecDepth 50000 in
theorem s_Law_law_417 {F : jx_F} {lv : Nat} {h : jx_H} {f0 : Nat} {r1 : Nat} {r2 : Nat} {x3 : Int32} {xs0 : Int32} {rs1 : Nat} {xs2 : Int32} (hr : jx_rcv F h 6 [.ref rs1, .int xs0] = true) : ev F (lv + 1) jm_Law_law 417 [.retAddr f0, .ref r1, .ref r2, .int x3] [.int xs0, .ref rs1, .int xs2] h = (rn F lv 141 [.ref rs1, .int xs0] h).bind fun q => ev F (lv + 1) jm_Law_law 420 [.retAddr f0, .ref r1, .ref r2, .int x3] (q.1.toList ++ [.int xs2]) q.2 := ev_cR rfl rfl rfl hr
set_option maxRecDepth 50000 in
theorem s_Law_law_420 {F : jx_F} {lv : Nat} {h : jx_H} {f0 : Nat} {r1 : Nat} {r2 : Nat} {x3 : Int32} {xs0 : Int32} {xs1 : Int32} : ev F lv jm_Law_law 420 [.retAddr f0, .ref r1, .ref r2, .int x3] [.int xs0, .int xs1] h = if xs1 = xs0 then ev F lv jm_Law_law 1045 [.retAddr f0, .ref r1, .ref r2, .int x3] [] h else ev F lv jm_Law_law 423 [.retAddr f0, .ref r1, .ref r2, .int x3] [] h := ev_b (off := 625) (b := jx_cmpB .eq xs1 xs0) rfl rfl rfl rfl rfl (by decide)
set_option maxRecDepth 50000 in
theorem s_Law_law_423 {F : jx_F} {lv : Nat} {h : jx_H} {f0 : Nat} {r1 : Nat} {r2 : Nat} {x3 : Int32} : ev F lv jm_Law_law 423 [.retAddr f0, .ref r1, .ref r2, .int x3] [] h = ev F lv jm_Law_law 424 [.retAddr f0, .ref r1, .ref r2, .int x3] [.int 0] h := ev_s rfl rfl rfl rfl
set_option maxRecDepth 50000 in
theorem s_Law_law_424 {F : jx_F} {lv : Nat} {h : jx_H} {f0 : Nat} {r1 : Nat} {r2 : Nat} {x3 : Int32} {xs0 : Int32} (hb : jx_ret1 4 xs0 = true) : ev F lv jm_Law_law 424 [.retAddr f0, .ref r1, .ref r2, .int x3] [.int xs0] h = some (some (.int xs0), h) := ev_rB rfl rfl hb
set_option maxRecDepth 50000 in
theorem s_Law_law_425 {F : jx_F} {lv : Nat} {h : jx_H} {f0 : Nat} {r1 : Nat} {r2 : Nat} {x3 : Int32} : ev F lv jm_Law_law 425 [.retAddr f0, .ref r1, .ref r2, .int x3] [] h = ev F lv jm_Law_law 426 [.retAddr f0, .ref r1, .ref r2, .int x3] [.ref r1] h := ev_s rfl rfl rfl rfl
set_option maxRecDepth 50000 in
theorem s_Law_law_426 {F : jx_F} {lv : Nat} {h : jx_H} {f0 : Nat} {r1 : Nat} {r2 : Nat} {x3 : Int32} {rs0 : Nat} : ev F lv jm_Law_law 426 [.retAddr f0, .ref r1, .ref r2, .int x3] [.ref rs0] h = ev F lv jm_Law_law 427 [.retAddr f0, .ref r1, .ref r2, .int x3] [.retAddr f0, .ref rs0] h := ev_s rfl rfl rfl rfl
set_option maxRecDepth 50000 in
theorem s_Law_law_427 {F : jx_F} {lv : Nat} {h : jx_H} {f0 : Nat} {r1 : Nat} {r2 : Nat} {x3 : Int32} {fs0 : Nat} {rs1 : Nat} : ev F lv jm_Law_law 427 [.retAddr f0, .ref r1, .ref r2, .int x3] [.retAddr fs0, .ref rs1] h = ev F lv jm_Law_law 428 [.retAddr f0, .ref r1, .ref r2, .int x3] [.int x3, .retAddr fs0, .ref rs1] h := ev_s rfl rfl rfl rfl
set_option maxRecDepth 50000 in
theorem s_Law_law_428 {F : jx_F} {lv : Nat} {h : jx_H} {f0 : Nat} {r1 : Nat} {r2 : Nat} {x3 : Int32} {xs0 : Int32} {fs1 : Nat} {rs2 : Nat} : ev F lv jm_Law_law 428 [.retAddr f0, .ref r1, .ref r2, .int x3] [.int xs0, .retAddr fs1, .ref rs2] h = ev F lv jm_Law_law 429 [.retAddr f0, .ref r1, .ref r2, .int x3] [.int 1, .int xs0, .retAddr fs1, .ref rs2] h := ev_s rfl rfl rfl rfl
set_option maxRecDepth 50000 in
theorem s_Law_law_429 {F : jx_F} {lv : Nat} {h : jx_H} {f0 : Nat} {r1 : Nat} {r2 : Nat} {x3 : Int32} {xs0 : Int32} {xs1 : Int32} {fs2 : Nat} {rs3 : Nat} : ev F lv jm_Law_law 429 [.retAddr f0, .ref r1, .ref r2, .int x3] [.int xs0, .int xs1, .retAddr fs2, .ref rs3] h = ev F lv jm_Law_law 430 [.retAddr f0, .ref r1, .ref r2, .int x3] [.int (xs1 + xs0), .retAddr fs2, .ref rs3] h := ev_s rfl rfl rfl rfl
set_option maxRecDepth 50000 in
theorem s_Law_law_430 {F : jx_F} {lv : Nat} {h : jx_H} {f0 : Nat} {r1 : Nat} {r2 : Nat} {x3 : Int32} {xs0 : Int32} {fs1 : Nat} {rs2 : Nat} : ev F lv jm_Law_law 430 [.retAddr f0, .ref r1, .ref r2, .int x3] [.int xs0, .retAddr fs1, .ref rs2] h = jx_gi F.1 0 fs1 xs0 fun v => ev F lv jm_Law_law 431 [.retAddr f0, .ref r1, .ref r2, .int x3] [.int v, .ref rs2] h := ev_gi rfl rfl rfl rfl
set_option maxRecDepth 50000 in
theorem s_Law_law_431 {F : jx_F} {lv : Nat} {h : jx_H} {f0 : Nat} {r1 : Nat} {r2 : Nat} {x3 : Int32} {xs0 : Int32} {rs1 : Nat} (hr : jx_rcv F h 5 [.ref rs1, .int xs0] = true) : ev F (lv + 1) jm_Law_law 431 [.retAddr f0, .ref r1, .ref r2, .int x3] [.int xs0, .ref rs1] h = (rn F lv 74 [.ref rs1, .int xs0] h).bind fun q => ev F (lv + 1) jm_Law_law 434 [.retAddr f0, .ref r1, .ref r2, .int x3] (q.1.toList ++ []) q.2 := ev_cR rfl rfl rfl hr
set_option maxRecDepth 50000 in
theorem s_Law_law_434 {F : jx_F} {lv : Nat} {h : jx_H} {f0 : Nat} {r1 : Nat} {r2 : Nat} {x3 : Int32} {xs0 : Int32} : ev F lv jm_Law_law 434 [.retAddr f0, .ref r1, .ref r2, .int x3] [.int xs0] h = ev F lv jm_Law_law 435 [.retAddr f0, .ref r1, .ref r2, .int x3] [.ref r2, .int xs0] h := ev_s rfl rfl rfl rfl
set_option maxRecDepth 50000 in
theorem s_Law_law_435 {F : jx_F} {lv : Nat} {h : jx_H} {f0 : Nat} {r1 : Nat} {r2 : Nat} {x3 : Int32} {rs0 : Nat} {xs1 : Int32} : ev F lv jm_Law_law 435 [.retAddr f0, .ref r1, .ref r2, .int x3] [.ref rs0, .int xs1] h = ev F lv jm_Law_law 436 [.retAddr f0, .ref r1, .ref r2, .int x3] [.retAddr f0, .ref rs0, .int xs1] h := ev_s rfl rfl rfl rfl
set_option maxRecDepth 50000 in
theorem s_Law_law_436 {F : jx_F} {lv : Nat} {h : jx_H} {f0 : Nat} {r1 : Nat} {r2 : Nat} {x3 : Int32} {fs0 : Nat} {rs1 : Nat} {xs2 : Int32} : ev F lv jm_Law_law 436 [.retAddr f0, .ref r1, .ref r2, .int x3] [.retAddr fs0, .ref rs1, .int xs2] h = ev F lv jm_Law_law 437 [.retAddr f0, .ref r1, .ref r2, .int x3] [.int x3, .retAddr fs0, .ref rs1, .int xs2] h := ev_s rfl rfl rfl rfl
set_option maxRecDepth 50000 in
theorem s_Law_law_437 {F : jx_F} {lv : Nat} {h : jx_H} {f0 : Nat} {r1 : Nat} {r2 : Nat} {x3 : Int32} {xs0 : Int32} {fs1 : Nat} {rs2 : Nat} {xs3 : Int32} : ev F lv jm_Law_law 437 [.retAddr f0, .ref r1, .ref r2, .int x3] [.int xs0, .retAddr fs1, .ref rs2, .int xs3] h = ev F lv jm_Law_law 438 [.retAddr f0, .ref r1, .ref r2, .int x3] [.int 1, .int xs0, .retAddr fs1, .ref rs2, .int xs3] h := ev_s rfl rfl rfl rfl
set_option maxRecDepth 50000 in
theorem s_Law_law_438 {F : jx_F} {lv : Nat} {h : jx_H} {f0 : Nat} {r1 : Nat} {r2 : Nat} {x3 : Int32} {xs0 : Int32} {xs1 : Int32} {fs2 : Nat} {rs3 : Nat} {xs4 : Int32} : ev F lv jm_Law_law 438 [.retAddr f0, .ref r1, .ref r2, .int x3] [.int xs0, .int xs1, .retAddr fs2, .ref rs3, .int xs4] h = ev F lv jm_Law_law 439 [.retAddr f0, .ref r1, .ref r2, .int x3] [.int (xs1 + xs0), .retAddr fs2, .ref rs3, .int xs4] h := ev_s rfl rfl rfl rfl
set_option maxRecDepth 50000 in
theorem s_Law_law_439 {F : jx_F} {lv : Nat} {h : jx_H} {f0 : Nat} {r1 : Nat} {r2 : Nat} {x3 : Int32} {xs0 : Int32} {fs1 : Nat} {rs2 : Nat} {xs3 : Int32} : ev F lv jm_Law_law 439 [.retAddr f0, .ref r1, .ref r2, .int x3] [.int xs0, .retAddr fs1, .ref rs2, .int xs3] h = jx_gi F.1 0 fs1 xs0 fun v => ev F lv jm_Law_law 440 [.retAddr f0, .ref r1, .ref r2, .int x3] [.int v, .ref rs2, .int xs3] h := ev_gi rfl rfl rfl rfl
set_option maxRecDepth 50000 in
theorem s_Law_law_440 {F : jx_F} {lv : Nat} {h : jx_H} {f0 : Nat} {r1 : Nat} {r2 : Nat} {x3 : Int32} {xs0 : Int32} {rs1 : Nat} {xs2 : Int32} (hr : jx_rcv F h 6 [.ref rs1, .int xs0] = true) : ev F (lv + 1) jm_Law_law 440 [.retAddr f0, .ref r1, .ref r2, .int x3] [.int xs0, .ref rs1, .int xs2] h = (rn F lv 142 [.ref rs1, .int xs0] h).bind fun q => ev F (lv + 1) jm_Law_law 443 [.retAddr f0, .ref r1, .ref r2, .int x3] (q.1.toList ++ [.int xs2]) q.2 := ev_cR rfl rfl rfl hr
set_option maxRecDepth 50000 in
theorem s_Law_law_443 {F : jx_F} {lv : Nat} {h : jx_H} {f0 : Nat} {r1 : Nat} {r2 : Nat} {x3 : Int32} {xs0 : Int32} {xs1 : Int32} : ev F lv jm_Law_law 443 [.retAddr f0, .ref r1, .ref r2, .int x3] [.int xs0, .int xs1] h = if xs1 = xs0 then ev F lv jm_Law_law 1045 [.retAddr f0, .ref r1, .ref r2, .int x3] [] h else ev F lv jm_Law_law 446 [.retAddr f0, .ref r1, .ref r2, .int x3] [] h := ev_b (off := 602) (b := jx_cmpB .eq xs1 xs0) rfl rfl rfl rfl rfl (by decide)
set_option maxRecDepth 50000 in
theorem s_Law_law_446 {F : jx_F} {lv : Nat} {h : jx_H} {f0 : Nat} {r1 : Nat} {r2 : Nat} {x3 : Int32} : ev F lv jm_Law_law 446 [.retAddr f0, .ref r1, .ref r2, .int x3] [] h = ev F lv jm_Law_law 447 [.retAddr f0, .ref r1, .ref r2, .int x3] [.int 0] h := ev_s rfl rfl rfl rfl
set_option maxRecDepth 50000 in
theorem s_Law_law_447 {F : jx_F} {lv : Nat} {h : jx_H} {f0 : Nat} {r1 : Nat} {r2 : Nat} {x3 : Int32} {xs0 : Int32} (hb : jx_ret1 4 xs0 = true) : ev F lv jm_Law_law 447 [.retAddr f0, .ref r1, .ref r2, .int x3] [.int xs0] h = some (some (.int xs0), h) := ev_rB rfl rfl hb
set_option maxRecDepth 50000 in
theorem s_Law_law_448 {F : jx_F} {lv : Nat} {h : jx_H} {f0 : Nat} {r1 : Nat} {r2 : Nat} {x3 : Int32} : ev F lv jm_Law_law 448 [.retAddr f0, .ref r1, .ref r2, .int x3] [] h = ev F lv jm_Law_law 449 [.retAddr f0, .ref r1, .ref r2, .int x3] [.ref r1] h := ev_s rfl rfl rfl rfl
set_option maxRecDepth 50000 in
theorem s_Law_law_449 {F : jx_F} {lv : Nat} {h : jx_H} {f0 : Nat} {r1 : Nat} {r2 : Nat} {x3 : Int32} {rs0 : Nat} : ev F lv jm_Law_law 449 [.retAddr f0, .ref r1, .ref r2, .int x3] [.ref rs0] h = ev F lv jm_Law_law 450 [.retAddr f0, .ref r1, .ref r2, .int x3] [.retAddr f0, .ref rs0] h := ev_s rfl rfl rfl rfl
set_option maxRecDepth 50000 in
theorem s_Law_law_450 {F : jx_F} {lv : Nat} {h : jx_H} {f0 : Nat} {r1 : Nat} {r2 : Nat} {x3 : Int32} {fs0 : Nat} {rs1 : Nat} : ev F lv jm_Law_law 450 [.retAddr f0, .ref r1, .ref r2, .int x3] [.retAddr fs0, .ref rs1] h = ev F lv jm_Law_law 451 [.retAddr f0, .ref r1, .ref r2, .int x3] [.int x3, .retAddr fs0, .ref rs1] h := ev_s rfl rfl rfl rfl
set_option maxRecDepth 50000 in
theorem s_Law_law_451 {F : jx_F} {lv : Nat} {h : jx_H} {f0 : Nat} {r1 : Nat} {r2 : Nat} {x3 : Int32} {xs0 : Int32} {fs1 : Nat} {rs2 : Nat} : ev F lv jm_Law_law 451 [.retAddr f0, .ref r1, .ref r2, .int x3] [.int xs0, .retAddr fs1, .ref rs2] h = ev F lv jm_Law_law 452 [.retAddr f0, .ref r1, .ref r2, .int x3] [.int 1, .int xs0, .retAddr fs1, .ref rs2] h := ev_s rfl rfl rfl rfl
set_option maxRecDepth 50000 in
theorem s_Law_law_452 {F : jx_F} {lv : Nat} {h : jx_H} {f0 : Nat} {r1 : Nat} {r2 : Nat} {x3 : Int32} {xs0 : Int32} {xs1 : Int32} {fs2 : Nat} {rs3 : Nat} : ev F lv jm_Law_law 452 [.retAddr f0, .ref r1, .ref r2, .int x3] [.int xs0, .int xs1, .retAddr fs2, .ref rs3] h = ev F lv jm_Law_law 453 [.retAddr f0, .ref r1, .ref r2, .int x3] [.int (xs1 + xs0), .retAddr fs2, .ref rs3] h := ev_s rfl rfl rfl rfl
set_option maxRecDepth 50000 in
theorem s_Law_law_453 {F : jx_F} {lv : Nat} {h : jx_H} {f0 : Nat} {r1 : Nat} {r2 : Nat} {x3 : Int32} {xs0 : Int32} {fs1 : Nat} {rs2 : Nat} : ev F lv jm_Law_law 453 [.retAddr f0, .ref r1, .ref r2, .int x3] [.int xs0, .retAddr fs1, .ref rs2] h = jx_gi F.1 0 fs1 xs0 fun v => ev F lv jm_Law_law 454 [.retAddr f0, .ref r1, .ref r2, .int x3] [.int v, .ref rs2] h := ev_gi rfl rfl rfl rfl
set_option maxRecDepth 50000 in
theorem s_Law_law_454 {F : jx_F} {lv : Nat} {h : jx_H} {f0 : Nat} {r1 : Nat} {r2 : Nat} {x3 : Int32} {xs0 : Int32} {rs1 : Nat} : ev F lv jm_Law_law 454 [.retAddr f0, .ref r1, .ref r2, .int x3] [.int xs0, .ref rs1] h = ev F lv jm_Law_law 455 [.retAddr f0, .ref r1, .ref r2, .int x3] [.retAddr f0, .int xs0, .ref rs1] h := ev_s rfl rfl rfl rfl
set_option maxRecDepth 50000 in
theorem s_Law_law_455 {F : jx_F} {lv : Nat} {h : jx_H} {f0 : Nat} {r1 : Nat} {r2 : Nat} {x3 : Int32} {fs0 : Nat} {xs1 : Int32} {rs2 : Nat} : ev F lv jm_Law_law 455 [.retAddr f0, .ref r1, .ref r2, .int x3] [.retAddr fs0, .int xs1, .ref rs2] h = ev F lv jm_Law_law 456 [.retAddr f0, .ref r1, .ref r2, .int x3] [.int x3, .retAddr fs0, .int xs1, .ref rs2] h := ev_s rfl rfl rfl rfl
set_option maxRecDepth 50000 in
theorem s_Law_law_456 {F : jx_F} {lv : Nat} {h : jx_H} {f0 : Nat} {r1 : Nat} {r2 : Nat} {x3 : Int32} {xs0 : Int32} {fs1 : Nat} {xs2 : Int32} {rs3 : Nat} : ev F lv jm_Law_law 456 [.retAddr f0, .ref r1, .ref r2, .int x3] [.int xs0, .retAddr fs1, .int xs2, .ref rs3] h = ev F lv jm_Law_law 457 [.retAddr f0, .ref r1, .ref r2, .int x3] [.int 2, .int xs0, .retAddr fs1, .int xs2, .ref rs3] h := ev_s rfl rfl rfl rfl
set_option maxRecDepth 50000 in
theorem s_Law_law_457 {F : jx_F} {lv : Nat} {h : jx_H} {f0 : Nat} {r1 : Nat} {r2 : Nat} {x3 : Int32} {xs0 : Int32} {xs1 : Int32} {fs2 : Nat} {xs3 : Int32} {rs4 : Nat} : ev F lv jm_Law_law 457 [.retAddr f0, .ref r1, .ref r2, .int x3] [.int xs0, .int xs1, .retAddr fs2, .int xs3, .ref rs4] h = ev F lv jm_Law_law 458 [.retAddr f0, .ref r1, .ref r2, .int x3] [.int (xs1 + xs0), .retAddr fs2, .int xs3, .ref rs4] h := ev_s rfl rfl rfl rfl
set_option maxRecDepth 50000 in
theorem s_Law_law_458 {F : jx_F} {lv : Nat} {h : jx_H} {f0 : Nat} {r1 : Nat} {r2 : Nat} {x3 : Int32} {xs0 : Int32} {fs1 : Nat} {xs2 : Int32} {rs3 : Nat} : ev F lv jm_Law_law 458 [.retAddr f0, .ref r1, .ref r2, .int x3] [.int xs0, .retAddr fs1, .int xs2, .ref rs3] h = jx_gi F.1 0 fs1 xs0 fun v => ev F lv jm_Law_law 459 [.retAddr f0, .ref r1, .ref r2, .int x3] [.int v, .int xs2, .ref rs3] h := ev_gi rfl rfl rfl rfl
set_option maxRecDepth 50000 in
theorem s_Law_law_459 {F : jx_F} {lv : Nat} {h : jx_H} {f0 : Nat} {r1 : Nat} {r2 : Nat} {x3 : Int32} {xs0 : Int32} {xs1 : Int32} {rs2 : Nat} (hr : jx_rcv F h 5 [.ref rs2, .int xs1, .int xs0] = true) : ev F (lv + 1) jm_Law_law 459 [.retAddr f0, .ref r1, .ref r2, .int x3] [.int xs0, .int xs1, .ref rs2] h = (rn F lv 75 [.ref rs2, .int xs1, .int xs0] h).bind fun q => ev F (lv + 1) jm_Law_law 462 [.retAddr f0, .ref r1, .ref r2, .int x3] (q.1.toList ++ []) q.2 := ev_cR rfl rfl rfl hr
set_option maxRecDepth 50000 in
theorem s_Law_law_462 {F : jx_F} {lv : Nat} {h : jx_H} {f0 : Nat} {r1 : Nat} {r2 : Nat} {x3 : Int32} {xs0 : Int32} : ev F lv jm_Law_law 462 [.retAddr f0, .ref r1, .ref r2, .int x3] [.int xs0] h = ev F lv jm_Law_law 463 [.retAddr f0, .ref r1, .ref r2, .int x3] [.ref r2, .int xs0] h := ev_s rfl rfl rfl rfl
set_option maxRecDepth 50000 in
theorem s_Law_law_463 {F : jx_F} {lv : Nat} {h : jx_H} {f0 : Nat} {r1 : Nat} {r2 : Nat} {x3 : Int32} {rs0 : Nat} {xs1 : Int32} : ev F lv jm_Law_law 463 [.retAddr f0, .ref r1, .ref r2, .int x3] [.ref rs0, .int xs1] h = ev F lv jm_Law_law 464 [.retAddr f0, .ref r1, .ref r2, .int x3] [.retAddr f0, .ref rs0, .int xs1] h := ev_s rfl rfl rfl rfl
set_option maxRecDepth 50000 in
theorem s_Law_law_464 {F : jx_F} {lv : Nat} {h : jx_H} {f0 : Nat} {r1 : Nat} {r2 : Nat} {x3 : Int32} {fs0 : Nat} {rs1 : Nat} {xs2 : Int32} : ev F lv jm_Law_law 464 [.retAddr f0, .ref r1, .ref r2, .int x3] [.retAddr fs0, .ref rs1, .int xs2] h = ev F lv jm_Law_law 465 [.retAddr f0, .ref r1, .ref r2, .int x3] [.int x3, .retAddr fs0, .ref rs1, .int xs2] h := ev_s rfl rfl rfl rfl
set_option maxRecDepth 50000 in
theorem s_Law_law_465 {F : jx_F} {lv : Nat} {h : jx_H} {f0 : Nat} {r1 : Nat} {r2 : Nat} {x3 : Int32} {xs0 : Int32} {fs1 : Nat} {rs2 : Nat} {xs3 : Int32} : ev F lv jm_Law_law 465 [.retAddr f0, .ref r1, .ref r2, .int x3] [.int xs0, .retAddr fs1, .ref rs2, .int xs3] h = ev F lv jm_Law_law 466 [.retAddr f0, .ref r1, .ref r2, .int x3] [.int 1, .int xs0, .retAddr fs1, .ref rs2, .int xs3] h := ev_s rfl rfl rfl rfl
set_option maxRecDepth 50000 in
theorem s_Law_law_466 {F : jx_F} {lv : Nat} {h : jx_H} {f0 : Nat} {r1 : Nat} {r2 : Nat} {x3 : Int32} {xs0 : Int32} {xs1 : Int32} {fs2 : Nat} {rs3 : Nat} {xs4 : Int32} : ev F lv jm_Law_law 466 [.retAddr f0, .ref r1, .ref r2, .int x3] [.int xs0, .int xs1, .retAddr fs2, .ref rs3, .int xs4] h = ev F lv jm_Law_law 467 [.retAddr f0, .ref r1, .ref r2, .int x3] [.int (xs1 + xs0), .retAddr fs2, .ref rs3, .int xs4] h := ev_s rfl rfl rfl rfl
set_option maxRecDepth 50000 in
theorem s_Law_law_467 {F : jx_F} {lv : Nat} {h : jx_H} {f0 : Nat} {r1 : Nat} {r2 : Nat} {x3 : Int32} {xs0 : Int32} {fs1 : Nat} {rs2 : Nat} {xs3 : Int32} : ev F lv jm_Law_law 467 [.retAddr f0, .ref r1, .ref r2, .int x3] [.int xs0, .retAddr fs1, .ref rs2, .int xs3] h = jx_gi F.1 0 fs1 xs0 fun v => ev F lv jm_Law_law 468 [.retAddr f0, .ref r1, .ref r2, .int x3] [.int v, .ref rs2, .int xs3] h := ev_gi rfl rfl rfl rfl
set_option maxRecDepth 50000 in
theorem s_Law_law_468 {F : jx_F} {lv : Nat} {h : jx_H} {f0 : Nat} {r1 : Nat} {r2 : Nat} {x3 : Int32} {xs0 : Int32} {rs1 : Nat} {xs2 : Int32} : ev F lv jm_Law_law 468 [.retAddr f0, .ref r1, .ref r2, .int x3] [.int xs0, .ref rs1, .int xs2] h = ev F lv jm_Law_law 469 [.retAddr f0, .ref r1, .ref r2, .int x3] [.retAddr f0, .int xs0, .ref rs1, .int xs2] h := ev_s rfl rfl rfl rfl
set_option maxRecDepth 50000 in
theorem s_Law_law_469 {F : jx_F} {lv : Nat} {h : jx_H} {f0 : Nat} {r1 : Nat} {r2 : Nat} {x3 : Int32} {fs0 : Nat} {xs1 : Int32} {rs2 : Nat} {xs3 : Int32} : ev F lv jm_Law_law 469 [.retAddr f0, .ref r1, .ref r2, .int x3] [.retAddr fs0, .int xs1, .ref rs2, .int xs3] h = ev F lv jm_Law_law 470 [.retAddr f0, .ref r1, .ref r2, .int x3] [.int x3, .retAddr fs0, .int xs1, .ref rs2, .int xs3] h := ev_s rfl rfl rfl rfl
set_option maxRecDepth 50000 in
theorem s_Law_law_470 {F : jx_F} {lv : Nat} {h : jx_H} {f0 : Nat} {r1 : Nat} {r2 : Nat} {x3 : Int32} {xs0 : Int32} {fs1 : Nat} {xs2 : Int32} {rs3 : Nat} {xs4 : Int32} : ev F lv jm_Law_law 470 [.retAddr f0, .ref r1, .ref r2, .int x3] [.int xs0, .retAddr fs1, .int xs2, .ref rs3, .int xs4] h = ev F lv jm_Law_law 471 [.retAddr f0, .ref r1, .ref r2, .int x3] [.int 2, .int xs0, .retAddr fs1, .int xs2, .ref rs3, .int xs4] h := ev_s rfl rfl rfl rfl
set_option maxRecDepth 50000 in
theorem s_Law_law_471 {F : jx_F} {lv : Nat} {h : jx_H} {f0 : Nat} {r1 : Nat} {r2 : Nat} {x3 : Int32} {xs0 : Int32} {xs1 : Int32} {fs2 : Nat} {xs3 : Int32} {rs4 : Nat} {xs5 : Int32} : ev F lv jm_Law_law 471 [.retAddr f0, .ref r1, .ref r2, .int x3] [.int xs0, .int xs1, .retAddr fs2, .int xs3, .ref rs4, .int xs5] h = ev F lv jm_Law_law 472 [.retAddr f0, .ref r1, .ref r2, .int x3] [.int (xs1 + xs0), .retAddr fs2, .int xs3, .ref rs4, .int xs5] h := ev_s rfl rfl rfl rfl
set_option maxRecDepth 50000 in
theorem s_Law_law_472 {F : jx_F} {lv : Nat} {h : jx_H} {f0 : Nat} {r1 : Nat} {r2 : Nat} {x3 : Int32} {xs0 : Int32} {fs1 : Nat} {xs2 : Int32} {rs3 : Nat} {xs4 : Int32} : ev F lv jm_Law_law 472 [.retAddr f0, .ref r1, .ref r2, .int x3] [.int xs0, .retAddr fs1, .int xs2, .ref rs3, .int xs4] h = jx_gi F.1 0 fs1 xs0 fun v => ev F lv jm_Law_law 473 [.retAddr f0, .ref r1, .ref r2, .int x3] [.int v, .int xs2, .ref rs3, .int xs4] h := ev_gi rfl rfl rfl rfl
set_option maxRecDepth 50000 in
theorem s_Law_law_473 {F : jx_F} {lv : Nat} {h : jx_H} {f0 : Nat} {r1 : Nat} {r2 : Nat} {x3 : Int32} {xs0 : Int32} {xs1 : Int32} {rs2 : Nat} {xs3 : Int32} (hr : jx_rcv F h 6 [.ref rs2, .int xs1, .int xs0] = true) : ev F (lv + 1) jm_Law_law 473 [.retAddr f0, .ref r1, .ref r2, .int x3] [.int xs0, .int xs1, .ref rs2, .int xs3] h = (rn F lv 144 [.ref rs2, .int xs1, .int xs0] h).bind fun q => ev F (lv + 1) jm_Law_law 476 [.retAddr f0, .ref r1, .ref r2, .int x3] (q.1.toList ++ [.int xs3]) q.2 := ev_cR rfl rfl rfl hr
set_option maxRecDepth 50000 in
theorem s_Law_law_476 {F : jx_F} {lv : Nat} {h : jx_H} {f0 : Nat} {r1 : Nat} {r2 : Nat} {x3 : Int32} {xs0 : Int32} {xs1 : Int32} : ev F lv jm_Law_law 476 [.retAddr f0, .ref r1, .ref r2, .int x3] [.int xs0, .int xs1] h = if xs1 = xs0 then ev F lv jm_Law_law 1045 [.retAddr f0, .ref r1, .ref r2, .int x3] [] h else ev F lv jm_Law_law 479 [.retAddr f0, .ref r1, .ref r2, .int x3] [] h := ev_b (off := 569) (b := jx_cmpB .eq xs1 xs0) rfl rfl rfl rfl rfl (by decide)
set_option maxRecDepth 50000 in
theorem s_Law_law_479 {F : jx_F} {lv : Nat} {h : jx_H} {f0 : Nat} {r1 : Nat} {r2 : Nat} {x3 : Int32} : ev F lv jm_Law_law 479 [.retAddr f0, .ref r1, .ref r2, .int x3] [] h = ev F lv jm_Law_law 480 [.retAddr f0, .ref r1, .ref r2, .int x3] [.int 0] h := ev_s rfl rfl rfl rfl
set_option maxRecDepth 50000 in
theorem s_Law_law_480 {F : jx_F} {lv : Nat} {h : jx_H} {f0 : Nat} {r1 : Nat} {r2 : Nat} {x3 : Int32} {xs0 : Int32} (hb : jx_ret1 4 xs0 = true) : ev F lv jm_Law_law 480 [.retAddr f0, .ref r1, .ref r2, .int x3] [.int xs0] h = some (some (.int xs0), h) := ev_rB rfl rfl hb
set_option maxRecDepth 50000 in
theorem s_Law_law_481 {F : jx_F} {lv : Nat} {h : jx_H} {f0 : Nat} {r1 : Nat} {r2 : Nat} {x3 : Int32} : ev F lv jm_Law_law 481 [.retAddr f0, .ref r1, .ref r2, .int x3] [] h = ev F lv jm_Law_law 482 [.retAddr f0, .ref r1, .ref r2, .int x3] [.ref r1] h := ev_s rfl rfl rfl rfl
set_option maxRecDepth 50000 in
theorem s_Law_law_482 {F : jx_F} {lv : Nat} {h : jx_H} {f0 : Nat} {r1 : Nat} {r2 : Nat} {x3 : Int32} {rs0 : Nat} : ev F lv jm_Law_law 482 [.retAddr f0, .ref r1, .ref r2, .int x3] [.ref rs0] h = ev F lv jm_Law_law 483 [.retAddr f0, .ref r1, .ref r2, .int x3] [.retAddr f0, .ref rs0] h := ev_s rfl rfl rfl rfl
set_option maxRecDepth 50000 in
theorem s_Law_law_483 {F : jx_F} {lv : Nat} {h : jx_H} {f0 : Nat} {r1 : Nat} {r2 : Nat} {x3 : Int32} {fs0 : Nat} {rs1 : Nat} : ev F lv jm_Law_law 483 [.retAddr f0, .ref r1, .ref r2, .int x3] [.retAddr fs0, .ref rs1] h = ev F lv jm_Law_law 484 [.retAddr f0, .ref r1, .ref r2, .int x3] [.int x3, .retAddr fs0, .ref rs1] h := ev_s rfl rfl rfl rfl
set_option maxRecDepth 50000 in
theorem s_Law_law_484 {F : jx_F} {lv : Nat} {h : jx_H} {f0 : Nat} {r1 : Nat} {r2 : Nat} {x3 : Int32} {xs0 : Int32} {fs1 : Nat} {rs2 : Nat} : ev F lv jm_Law_law 484 [.retAddr f0, .ref r1, .ref r2, .int x3] [.int xs0, .retAddr fs1, .ref rs2] h = ev F lv jm_Law_law 485 [.retAddr f0, .ref r1, .ref r2, .int x3] [.int 1, .int xs0, .retAddr fs1, .ref rs2] h := ev_s rfl rfl rfl rfl
set_option maxRecDepth 50000 in
theorem s_Law_law_485 {F : jx_F} {lv : Nat} {h : jx_H} {f0 : Nat} {r1 : Nat} {r2 : Nat} {x3 : Int32} {xs0 : Int32} {xs1 : Int32} {fs2 : Nat} {rs3 : Nat} : ev F lv jm_Law_law 485 [.retAddr f0, .ref r1, .ref r2, .int x3] [.int xs0, .int xs1, .retAddr fs2, .ref rs3] h = ev F lv jm_Law_law 486 [.retAddr f0, .ref r1, .ref r2, .int x3] [.int (xs1 + xs0), .retAddr fs2, .ref rs3] h := ev_s rfl rfl rfl rfl
set_option maxRecDepth 50000 in
theorem s_Law_law_486 {F : jx_F} {lv : Nat} {h : jx_H} {f0 : Nat} {r1 : Nat} {r2 : Nat} {x3 : Int32} {xs0 : Int32} {fs1 : Nat} {rs2 : Nat} : ev F lv jm_Law_law 486 [.retAddr f0, .ref r1, .ref r2, .int x3] [.int xs0, .retAddr fs1, .ref rs2] h = jx_gi F.1 0 fs1 xs0 fun v => ev F lv jm_Law_law 487 [.retAddr f0, .ref r1, .ref r2, .int x3] [.int v, .ref rs2] h := ev_gi rfl rfl rfl rfl
set_option maxRecDepth 50000 in
theorem s_Law_law_487 {F : jx_F} {lv : Nat} {h : jx_H} {f0 : Nat} {r1 : Nat} {r2 : Nat} {x3 : Int32} {xs0 : Int32} {rs1 : Nat} (hr : jx_rcv F h 5 [.ref rs1, .int xs0] = true) : ev F (lv + 1) jm_Law_law 487 [.retAddr f0, .ref r1, .ref r2, .int x3] [.int xs0, .ref rs1] h = (rn F lv 76 [.ref rs1, .int xs0] h).bind fun q => ev F (lv + 1) jm_Law_law 490 [.retAddr f0, .ref r1, .ref r2, .int x3] (q.1.toList ++ []) q.2 := ev_cR rfl rfl rfl hr
set_option maxRecDepth 50000 in
theorem s_Law_law_490 {F : jx_F} {lv : Nat} {h : jx_H} {f0 : Nat} {r1 : Nat} {r2 : Nat} {x3 : Int32} {xs0 : Int32} : ev F lv jm_Law_law 490 [.retAddr f0, .ref r1, .ref r2, .int x3] [.int xs0] h = ev F lv jm_Law_law 491 [.retAddr f0, .ref r1, .ref r2, .int x3] [.ref r2, .int xs0] h := ev_s rfl rfl rfl rfl
set_option maxRecDepth 50000 in
theorem s_Law_law_491 {F : jx_F} {lv : Nat} {h : jx_H} {f0 : Nat} {r1 : Nat} {r2 : Nat} {x3 : Int32} {rs0 : Nat} {xs1 : Int32} : ev F lv jm_Law_law 491 [.retAddr f0, .ref r1, .ref r2, .int x3] [.ref rs0, .int xs1] h = ev F lv jm_Law_law 492 [.retAddr f0, .ref r1, .ref r2, .int x3] [.retAddr f0, .ref rs0, .int xs1] h := ev_s rfl rfl rfl rfl
set_option maxRecDepth 50000 in
theorem s_Law_law_492 {F : jx_F} {lv : Nat} {h : jx_H} {f0 : Nat} {r1 : Nat} {r2 : Nat} {x3 : Int32} {fs0 : Nat} {rs1 : Nat} {xs2 : Int32} : ev F lv jm_Law_law 492 [.retAddr f0, .ref r1, .ref r2, .int x3] [.retAddr fs0, .ref rs1, .int xs2] h = ev F lv jm_Law_law 493 [.retAddr f0, .ref r1, .ref r2, .int x3] [.int x3, .retAddr fs0, .ref rs1, .int xs2] h := ev_s rfl rfl rfl rfl
set_option maxRecDepth 50000 in
theorem s_Law_law_493 {F : jx_F} {lv : Nat} {h : jx_H} {f0 : Nat} {r1 : Nat} {r2 : Nat} {x3 : Int32} {xs0 : Int32} {fs1 : Nat} {rs2 : Nat} {xs3 : Int32} : ev F lv jm_Law_law 493 [.retAddr f0, .ref r1, .ref r2, .int x3] [.int xs0, .retAddr fs1, .ref rs2, .int xs3] h = ev F lv jm_Law_law 494 [.retAddr f0, .ref r1, .ref r2, .int x3] [.int 1, .int xs0, .retAddr fs1, .ref rs2, .int xs3] h := ev_s rfl rfl rfl rfl
set_option maxRecDepth 50000 in
theorem s_Law_law_494 {F : jx_F} {lv : Nat} {h : jx_H} {f0 : Nat} {r1 : Nat} {r2 : Nat} {x3 : Int32} {xs0 : Int32} {xs1 : Int32} {fs2 : Nat} {rs3 : Nat} {xs4 : Int32} : ev F lv jm_Law_law 494 [.retAddr f0, .ref r1, .ref r2, .int x3] [.int xs0, .int xs1, .retAddr fs2, .ref rs3, .int xs4] h = ev F lv jm_Law_law 495 [.retAddr f0, .ref r1, .ref r2, .int x3] [.int (xs1 + xs0), .retAddr fs2, .ref rs3, .int xs4] h := ev_s rfl rfl rfl rfl
set_option maxRecDepth 50000 in
theorem s_Law_law_495 {F : jx_F} {lv : Nat} {h : jx_H} {f0 : Nat} {r1 : Nat} {r2 : Nat} {x3 : Int32} {xs0 : Int32} {fs1 : Nat} {rs2 : Nat} {xs3 : Int32} : ev F lv jm_Law_law 495 [.retAddr f0, .ref r1, .ref r2, .int x3] [.int xs0, .retAddr fs1, .ref rs2, .int xs3] h = jx_gi F.1 0 fs1 xs0 fun v => ev F lv jm_Law_law 496 [.retAddr f0, .ref r1, .ref r2, .int x3] [.int v, .ref rs2, .int xs3] h := ev_gi rfl rfl rfl rfl
set_option maxRecDepth 50000 in
theorem s_Law_law_496 {F : jx_F} {lv : Nat} {h : jx_H} {f0 : Nat} {r1 : Nat} {r2 : Nat} {x3 : Int32} {xs0 : Int32} {rs1 : Nat} {xs2 : Int32} (hr : jx_rcv F h 6 [.ref rs1, .int xs0] = true) : ev F (lv + 1) jm_Law_law 496 [.retAddr f0, .ref r1, .ref r2, .int x3] [.int xs0, .ref rs1, .int xs2] h = (rn F lv 145 [.ref rs1, .int xs0] h).bind fun q => ev F (lv + 1) jm_Law_law 499 [.retAddr f0, .ref r1, .ref r2, .int x3] (q.1.toList ++ [.int xs2]) q.2 := ev_cR rfl rfl rfl hr
set_option maxRecDepth 50000 in
theorem s_Law_law_499 {F : jx_F} {lv : Nat} {h : jx_H} {f0 : Nat} {r1 : Nat} {r2 : Nat} {x3 : Int32} {xs0 : Int32} {xs1 : Int32} : ev F lv jm_Law_law 499 [.retAddr f0, .ref r1, .ref r2, .int x3] [.int xs0, .int xs1] h = if xs1 = xs0 then ev F lv jm_Law_law 1045 [.retAddr f0, .ref r1, .ref r2, .int x3] [] h else ev F lv jm_Law_law 502 [.retAddr f0, .ref r1, .ref r2, .int x3] [] h := ev_b (off := 546) (b := jx_cmpB .eq xs1 xs0) rfl rfl rfl rfl rfl (by decide)
set_option maxRecDepth 50000 in
theorem s_Law_law_502 {F : jx_F} {lv : Nat} {h : jx_H} {f0 : Nat} {r1 : Nat} {r2 : Nat} {x3 : Int32} : ev F lv jm_Law_law 502 [.retAddr f0, .ref r1, .ref r2, .int x3] [] h = ev F lv jm_Law_law 503 [.retAddr f0, .ref r1, .ref r2, .int x3] [.int 0] h := ev_s rfl rfl rfl rfl
set_option maxRecDepth 50000 in
theorem s_Law_law_503 {F : jx_F} {lv : Nat} {h : jx_H} {f0 : Nat} {r1 : Nat} {r2 : Nat} {x3 : Int32} {xs0 : Int32} (hb : jx_ret1 4 xs0 = true) : ev F lv jm_Law_law 503 [.retAddr f0, .ref r1, .ref r2, .int x3] [.int xs0] h = some (some (.int xs0), h) := ev_rB rfl rfl hb
set_option maxRecDepth 50000 in
theorem s_Law_law_504 {F : jx_F} {lv : Nat} {h : jx_H} {f0 : Nat} {r1 : Nat} {r2 : Nat} {x3 : Int32} : ev F lv jm_Law_law 504 [.retAddr f0, .ref r1, .ref r2, .int x3] [] h = ev F lv jm_Law_law 505 [.retAddr f0, .ref r1, .ref r2, .int x3] [.ref r1] h := ev_s rfl rfl rfl rfl
set_option maxRecDepth 50000 in
theorem s_Law_law_505 {F : jx_F} {lv : Nat} {h : jx_H} {f0 : Nat} {r1 : Nat} {r2 : Nat} {x3 : Int32} {rs0 : Nat} (hr : jx_rcv F h 5 [.ref rs0] = true) : ev F (lv + 1) jm_Law_law 505 [.retAddr f0, .ref r1, .ref r2, .int x3] [.ref rs0] h = (rn F lv 77 [.ref rs0] h).bind fun q => ev F (lv + 1) jm_Law_law 508 [.retAddr f0, .ref r1, .ref r2, .int x3] (q.1.toList ++ []) q.2 := ev_cR rfl rfl rfl hr
set_option maxRecDepth 50000 in
theorem s_Law_law_508 {F : jx_F} {lv : Nat} {h : jx_H} {f0 : Nat} {r1 : Nat} {r2 : Nat} {x3 : Int32} {xs0 : Int32} : ev F lv jm_Law_law 508 [.retAddr f0, .ref r1, .ref r2, .int x3] [.int xs0] h = ev F lv jm_Law_law 509 [.retAddr f0, .ref r1, .ref r2, .int x3] [.ref r2, .int xs0] h := ev_s rfl rfl rfl rfl
set_option maxRecDepth 50000 in
theorem s_Law_law_509 {F : jx_F} {lv : Nat} {h : jx_H} {f0 : Nat} {r1 : Nat} {r2 : Nat} {x3 : Int32} {rs0 : Nat} {xs1 : Int32} (hr : jx_rcv F h 6 [.ref rs0] = true) : ev F (lv + 1) jm_Law_law 509 [.retAddr f0, .ref r1, .ref r2, .int x3] [.ref rs0, .int xs1] h = (rn F lv 147 [.ref rs0] h).bind fun q => ev F (lv + 1) jm_Law_law 512 [.retAddr f0, .ref r1, .ref r2, .int x3] (q.1.toList ++ [.int xs1]) q.2 := ev_cR rfl rfl rfl hr
set_option maxRecDepth 50000 in
theorem s_Law_law_512 {F : jx_F} {lv : Nat} {h : jx_H} {f0 : Nat} {r1 : Nat} {r2 : Nat} {x3 : Int32} {xs0 : Int32} {xs1 : Int32} : ev F lv jm_Law_law 512 [.retAddr f0, .ref r1, .ref r2, .int x3] [.int xs0, .int xs1] h = if xs1 = xs0 then ev F lv jm_Law_law 1045 [.retAddr f0, .ref r1, .ref r2, .int x3] [] h else ev F lv jm_Law_law 515 [.retAddr f0, .ref r1, .ref r2, .int x3] [] h := ev_b (off := 533) (b := jx_cmpB .eq xs1 xs0) rfl rfl rfl rfl rfl (by decide)
set_option maxRecDepth 50000 in
theorem s_Law_law_515 {F : jx_F} {lv : Nat} {h : jx_H} {f0 : Nat} {r1 : Nat} {r2 : Nat} {x3 : Int32} : ev F lv jm_Law_law 515 [.retAddr f0, .ref r1, .ref r2, .int x3] [] h = ev F lv jm_Law_law 516 [.retAddr f0, .ref r1, .ref r2, .int x3] [.int 0] h := ev_s rfl rfl rfl rfl
set_option maxRecDepth 50000 in
theorem s_Law_law_516 {F : jx_F} {lv : Nat} {h : jx_H} {f0 : Nat} {r1 : Nat} {r2 : Nat} {x3 : Int32} {xs0 : Int32} (hb : jx_ret1 4 xs0 = true) : ev F lv jm_Law_law 516 [.retAddr f0, .ref r1, .ref r2, .int x3] [.int xs0] h = some (some (.int xs0), h) := ev_rB rfl rfl hb
set_option maxRecDepth 50000 in
theorem s_Law_law_517 {F : jx_F} {lv : Nat} {h : jx_H} {f0 : Nat} {r1 : Nat} {r2 : Nat} {x3 : Int32} : ev F lv jm_Law_law 517 [.retAddr f0, .ref r1, .ref r2, .int x3] [] h = ev F lv jm_Law_law 518 [.retAddr f0, .ref r1, .ref r2, .int x3] [.ref r1] h := ev_s rfl rfl rfl rfl
set_option maxRecDepth 50000 in
theorem s_Law_law_518 {F : jx_F} {lv : Nat} {h : jx_H} {f0 : Nat} {r1 : Nat} {r2 : Nat} {x3 : Int32} {rs0 : Nat} : ev F lv jm_Law_law 518 [.retAddr f0, .ref r1, .ref r2, .int x3] [.ref rs0] h = ev F lv jm_Law_law 519 [.retAddr f0, .ref r1, .ref r2, .int x3] [.retAddr f0, .ref rs0] h := ev_s rfl rfl rfl rfl
set_option maxRecDepth 50000 in
theorem s_Law_law_519 {F : jx_F} {lv : Nat} {h : jx_H} {f0 : Nat} {r1 : Nat} {r2 : Nat} {x3 : Int32} {fs0 : Nat} {rs1 : Nat} : ev F lv jm_Law_law 519 [.retAddr f0, .ref r1, .ref r2, .int x3] [.retAddr fs0, .ref rs1] h = ev F lv jm_Law_law 520 [.retAddr f0, .ref r1, .ref r2, .int x3] [.int x3, .retAddr fs0, .ref rs1] h := ev_s rfl rfl rfl rfl
set_option maxRecDepth 50000 in
theorem s_Law_law_520 {F : jx_F} {lv : Nat} {h : jx_H} {f0 : Nat} {r1 : Nat} {r2 : Nat} {x3 : Int32} {xs0 : Int32} {fs1 : Nat} {rs2 : Nat} : ev F lv jm_Law_law 520 [.retAddr f0, .ref r1, .ref r2, .int x3] [.int xs0, .retAddr fs1, .ref rs2] h = ev F lv jm_Law_law 521 [.retAddr f0, .ref r1, .ref r2, .int x3] [.int 1, .int xs0, .retAddr fs1, .ref rs2] h := ev_s rfl rfl rfl rfl
set_option maxRecDepth 50000 in
theorem s_Law_law_521 {F : jx_F} {lv : Nat} {h : jx_H} {f0 : Nat} {r1 : Nat} {r2 : Nat} {x3 : Int32} {xs0 : Int32} {xs1 : Int32} {fs2 : Nat} {rs3 : Nat} : ev F lv jm_Law_law 521 [.retAddr f0, .ref r1, .ref r2, .int x3] [.int xs0, .int xs1, .retAddr fs2, .ref rs3] h = ev F lv jm_Law_law 522 [.retAddr f0, .ref r1, .ref r2, .int x3] [.int (xs1 + xs0), .retAddr fs2, .ref rs3] h := ev_s rfl rfl rfl rfl
set_option maxRecDepth 50000 in
theorem s_Law_law_522 {F : jx_F} {lv : Nat} {h : jx_H} {f0 : Nat} {r1 : Nat} {r2 : Nat} {x3 : Int32} {xs0 : Int32} {fs1 : Nat} {rs2 : Nat} : ev F lv jm_Law_law 522 [.retAddr f0, .ref r1, .ref r2, .int x3] [.int xs0, .retAddr fs1, .ref rs2] h = jx_gi F.1 0 fs1 xs0 fun v => ev F lv jm_Law_law 523 [.retAddr f0, .ref r1, .ref r2, .int x3] [.int v, .ref rs2] h := ev_gi rfl rfl rfl rfl
set_option maxRecDepth 50000 in
theorem s_Law_law_523 {F : jx_F} {lv : Nat} {h : jx_H} {f0 : Nat} {r1 : Nat} {r2 : Nat} {x3 : Int32} {xs0 : Int32} {rs1 : Nat} : ev F lv jm_Law_law 523 [.retAddr f0, .ref r1, .ref r2, .int x3] [.int xs0, .ref rs1] h = ev F lv jm_Law_law 524 [.retAddr f0, .ref r1, .ref r2, .int x3] [.retAddr f0, .int xs0, .ref rs1] h := ev_s rfl rfl rfl rfl
set_option maxRecDepth 50000 in
theorem s_Law_law_524 {F : jx_F} {lv : Nat} {h : jx_H} {f0 : Nat} {r1 : Nat} {r2 : Nat} {x3 : Int32} {fs0 : Nat} {xs1 : Int32} {rs2 : Nat} : ev F lv jm_Law_law 524 [.retAddr f0, .ref r1, .ref r2, .int x3] [.retAddr fs0, .int xs1, .ref rs2] h = ev F lv jm_Law_law 525 [.retAddr f0, .ref r1, .ref r2, .int x3] [.int x3, .retAddr fs0, .int xs1, .ref rs2] h := ev_s rfl rfl rfl rfl
set_option maxRecDepth 50000 in
theorem s_Law_law_525 {F : jx_F} {lv : Nat} {h : jx_H} {f0 : Nat} {r1 : Nat} {r2 : Nat} {x3 : Int32} {xs0 : Int32} {fs1 : Nat} {xs2 : Int32} {rs3 : Nat} : ev F lv jm_Law_law 525 [.retAddr f0, .ref r1, .ref r2, .int x3] [.int xs0, .retAddr fs1, .int xs2, .ref rs3] h = ev F lv jm_Law_law 526 [.retAddr f0, .ref r1, .ref r2, .int x3] [.int 2, .int xs0, .retAddr fs1, .int xs2, .ref rs3] h := ev_s rfl rfl rfl rfl
set_option maxRecDepth 50000 in
theorem s_Law_law_526 {F : jx_F} {lv : Nat} {h : jx_H} {f0 : Nat} {r1 : Nat} {r2 : Nat} {x3 : Int32} {xs0 : Int32} {xs1 : Int32} {fs2 : Nat} {xs3 : Int32} {rs4 : Nat} : ev F lv jm_Law_law 526 [.retAddr f0, .ref r1, .ref r2, .int x3] [.int xs0, .int xs1, .retAddr fs2, .int xs3, .ref rs4] h = ev F lv jm_Law_law 527 [.retAddr f0, .ref r1, .ref r2, .int x3] [.int (xs1 + xs0), .retAddr fs2, .int xs3, .ref rs4] h := ev_s rfl rfl rfl rfl
set_option maxRecDepth 50000 in
theorem s_Law_law_527 {F : jx_F} {lv : Nat} {h : jx_H} {f0 : Nat} {r1 : Nat} {r2 : Nat} {x3 : Int32} {xs0 : Int32} {fs1 : Nat} {xs2 : Int32} {rs3 : Nat} : ev F lv jm_Law_law 527 [.retAddr f0, .ref r1, .ref r2, .int x3] [.int xs0, .retAddr fs1, .int xs2, .ref rs3] h = jx_gi F.1 0 fs1 xs0 fun v => ev F lv jm_Law_law 528 [.retAddr f0, .ref r1, .ref r2, .int x3] [.int v, .int xs2, .ref rs3] h := ev_gi rfl rfl rfl rfl
set_option maxRecDepth 50000 in
theorem s_Law_law_528 {F : jx_F} {lv : Nat} {h : jx_H} {f0 : Nat} {r1 : Nat} {r2 : Nat} {x3 : Int32} {xs0 : Int32} {xs1 : Int32} {rs2 : Nat} (hr : jx_rcv F h 5 [.ref rs2, .int xs1, .int xs0] = true) : ev F (lv + 1) jm_Law_law 528 [.retAddr f0, .ref r1, .ref r2, .int x3] [.int xs0, .int xs1, .ref rs2] h = (rn F lv 78 [.ref rs2, .int xs1, .int xs0] h).bind fun q => ev F (lv + 1) jm_Law_law 531 [.retAddr f0, .ref r1, .ref r2, .int x3] (q.1.toList ++ []) q.2 := ev_cR rfl rfl rfl hr
set_option maxRecDepth 50000 in
theorem s_Law_law_531 {F : jx_F} {lv : Nat} {h : jx_H} {f0 : Nat} {r1 : Nat} {r2 : Nat} {x3 : Int32} {xs0 : Int32} : ev F lv jm_Law_law 531 [.retAddr f0, .ref r1, .ref r2, .int x3] [.int xs0] h = ev F lv jm_Law_law 532 [.retAddr f0, .ref r1, .ref r2, .int x3] [.ref r2, .int xs0] h := ev_s rfl rfl rfl rfl
set_option maxRecDepth 50000 in
theorem s_Law_law_532 {F : jx_F} {lv : Nat} {h : jx_H} {f0 : Nat} {r1 : Nat} {r2 : Nat} {x3 : Int32} {rs0 : Nat} {xs1 : Int32} : ev F lv jm_Law_law 532 [.retAddr f0, .ref r1, .ref r2, .int x3] [.ref rs0, .int xs1] h = ev F lv jm_Law_law 533 [.retAddr f0, .ref r1, .ref r2, .int x3] [.retAddr f0, .ref rs0, .int xs1] h := ev_s rfl rfl rfl rfl
set_option maxRecDepth 50000 in
theorem s_Law_law_533 {F : jx_F} {lv : Nat} {h : jx_H} {f0 : Nat} {r1 : Nat} {r2 : Nat} {x3 : Int32} {fs0 : Nat} {rs1 : Nat} {xs2 : Int32} : ev F lv jm_Law_law 533 [.retAddr f0, .ref r1, .ref r2, .int x3] [.retAddr fs0, .ref rs1, .int xs2] h = ev F lv jm_Law_law 534 [.retAddr f0, .ref r1, .ref r2, .int x3] [.int x3, .retAddr fs0, .ref rs1, .int xs2] h := ev_s rfl rfl rfl rfl
set_option maxRecDepth 50000 in
theorem s_Law_law_534 {F : jx_F} {lv : Nat} {h : jx_H} {f0 : Nat} {r1 : Nat} {r2 : Nat} {x3 : Int32} {xs0 : Int32} {fs1 : Nat} {rs2 : Nat} {xs3 : Int32} : ev F lv jm_Law_law 534 [.retAddr f0, .ref r1, .ref r2, .int x3] [.int xs0, .retAddr fs1, .ref rs2, .int xs3] h = ev F lv jm_Law_law 535 [.retAddr f0, .ref r1, .ref r2, .int x3] [.int 1, .int xs0, .retAddr fs1, .ref rs2, .int xs3] h := ev_s rfl rfl rfl rfl
set_option maxRecDepth 50000 in
theorem s_Law_law_535 {F : jx_F} {lv : Nat} {h : jx_H} {f0 : Nat} {r1 : Nat} {r2 : Nat} {x3 : Int32} {xs0 : Int32} {xs1 : Int32} {fs2 : Nat} {rs3 : Nat} {xs4 : Int32} : ev F lv jm_Law_law 535 [.retAddr f0, .ref r1, .ref r2, .int x3] [.int xs0, .int xs1, .retAddr fs2, .ref rs3, .int xs4] h = ev F lv jm_Law_law 536 [.retAddr f0, .ref r1, .ref r2, .int x3] [.int (xs1 + xs0), .retAddr fs2, .ref rs3, .int xs4] h := ev_s rfl rfl rfl rfl
set_option maxRecDepth 50000 in
theorem s_Law_law_536 {F : jx_F} {lv : Nat} {h : jx_H} {f0 : Nat} {r1 : Nat} {r2 : Nat} {x3 : Int32} {xs0 : Int32} {fs1 : Nat} {rs2 : Nat} {xs3 : Int32} : ev F lv jm_Law_law 536 [.retAddr f0, .ref r1, .ref r2, .int x3] [.int xs0, .retAddr fs1, .ref rs2, .int xs3] h = jx_gi F.1 0 fs1 xs0 fun v => ev F lv jm_Law_law 537 [.retAddr f0, .ref r1, .ref r2, .int x3] [.int v, .ref rs2, .int xs3] h := ev_gi rfl rfl rfl rfl
set_option maxRecDepth 50000 in
theorem s_Law_law_537 {F : jx_F} {lv : Nat} {h : jx_H} {f0 : Nat} {r1 : Nat} {r2 : Nat} {x3 : Int32} {xs0 : Int32} {rs1 : Nat} {xs2 : Int32} : ev F lv jm_Law_law 537 [.retAddr f0, .ref r1, .ref r2, .int x3] [.int xs0, .ref rs1, .int xs2] h = ev F lv jm_Law_law 538 [.retAddr f0, .ref r1, .ref r2, .int x3] [.retAddr f0, .int xs0, .ref rs1, .int xs2] h := ev_s rfl rfl rfl rfl
set_option maxRecDepth 50000 in
theorem s_Law_law_538 {F : jx_F} {lv : Nat} {h : jx_H} {f0 : Nat} {r1 : Nat} {r2 : Nat} {x3 : Int32} {fs0 : Nat} {xs1 : Int32} {rs2 : Nat} {xs3 : Int32} : ev F lv jm_Law_law 538 [.retAddr f0, .ref r1, .ref r2, .int x3] [.retAddr fs0, .int xs1, .ref rs2, .int xs3] h = ev F lv jm_Law_law 539 [.retAddr f0, .ref r1, .ref r2, .int x3] [.int x3, .retAddr fs0, .int xs1, .ref rs2, .int xs3] h := ev_s rfl rfl rfl rfl
set_option maxRecDepth 50000 in
theorem s_Law_law_539 {F : jx_F} {lv : Nat} {h : jx_H} {f0 : Nat} {r1 : Nat} {r2 : Nat} {x3 : Int32} {xs0 : Int32} {fs1 : Nat} {xs2 : Int32} {rs3 : Nat} {xs4 : Int32} : ev F lv jm_Law_law 539 [.retAddr f0, .ref r1, .ref r2, .int x3] [.int xs0, .retAddr fs1, .int xs2, .ref rs3, .int xs4] h = ev F lv jm_Law_law 540 [.retAddr f0, .ref r1, .ref r2, .int x3] [.int 2, .int xs0, .retAddr fs1, .int xs2, .ref rs3, .int xs4] h := ev_s rfl rfl rfl rfl
set_option maxRecDepth 50000 in
theorem s_Law_law_540 {F : jx_F} {lv : Nat} {h : jx_H} {f0 : Nat} {r1 : Nat} {r2 : Nat} {x3 : Int32} {xs0 : Int32} {xs1 : Int32} {fs2 : Nat} {xs3 : Int32} {rs4 : Nat} {xs5 : Int32} : ev F lv jm_Law_law 540 [.retAddr f0, .ref r1, .ref r2, .int x3] [.int xs0, .int xs1, .retAddr fs2, .int xs3, .ref rs4, .int xs5] h = ev F lv jm_Law_law 541 [.retAddr f0, .ref r1, .ref r2, .int x3] [.int (xs1 + xs0), .retAddr fs2, .int xs3, .ref rs4, .int xs5] h := ev_s rfl rfl rfl rfl
set_option maxRecDepth 50000 in
theorem s_Law_law_541 {F : jx_F} {lv : Nat} {h : jx_H} {f0 : Nat} {r1 : Nat} {r2 : Nat} {x3 : Int32} {xs0 : Int32} {fs1 : Nat} {xs2 : Int32} {rs3 : Nat} {xs4 : Int32} : ev F lv jm_Law_law 541 [.retAddr f0, .ref r1, .ref r2, .int x3] [.int xs0, .retAddr fs1, .int xs2, .ref rs3, .int xs4] h = jx_gi F.1 0 fs1 xs0 fun v => ev F lv jm_Law_law 542 [.retAddr f0, .ref r1, .ref r2, .int x3] [.int v, .int xs2, .ref rs3, .int xs4] h := ev_gi rfl rfl rfl rfl
set_option maxRecDepth 50000 in
theorem s_Law_law_542 {F : jx_F} {lv : Nat} {h : jx_H} {f0 : Nat} {r1 : Nat} {r2 : Nat} {x3 : Int32} {xs0 : Int32} {xs1 : Int32} {rs2 : Nat} {xs3 : Int32} (hr : jx_rcv F h 6 [.ref rs2, .int xs1, .int xs0] = true) : ev F (lv + 1) jm_Law_law 542 [.retAddr f0, .ref r1, .ref r2, .int x3] [.int xs0, .int xs1, .ref rs2, .int xs3] h = (rn F lv 149 [.ref rs2, .int xs1, .int xs0] h).bind fun q => ev F (lv + 1) jm_Law_law 545 [.retAddr f0, .ref r1, .ref r2, .int x3] (q.1.toList ++ [.int xs3]) q.2 := ev_cR rfl rfl rfl hr
set_option maxRecDepth 50000 in
theorem s_Law_law_545 {F : jx_F} {lv : Nat} {h : jx_H} {f0 : Nat} {r1 : Nat} {r2 : Nat} {x3 : Int32} {xs0 : Int32} {xs1 : Int32} : ev F lv jm_Law_law 545 [.retAddr f0, .ref r1, .ref r2, .int x3] [.int xs0, .int xs1] h = if xs1 = xs0 then ev F lv jm_Law_law 1045 [.retAddr f0, .ref r1, .ref r2, .int x3] [] h else ev F lv jm_Law_law 548 [.retAddr f0, .ref r1, .ref r2, .int x3] [] h := ev_b (off := 500) (b := jx_cmpB .eq xs1 xs0) rfl rfl rfl rfl rfl (by decide)
set_option maxRecDepth 50000 in
theorem s_Law_law_548 {F : jx_F} {lv : Nat} {h : jx_H} {f0 : Nat} {r1 : Nat} {r2 : Nat} {x3 : Int32} : ev F lv jm_Law_law 548 [.retAddr f0, .ref r1, .ref r2, .int x3] [] h = ev F lv jm_Law_law 549 [.retAddr f0, .ref r1, .ref r2, .int x3] [.int 0] h := ev_s rfl rfl rfl rfl
set_option maxRecDepth 50000 in
theorem s_Law_law_549 {F : jx_F} {lv : Nat} {h : jx_H} {f0 : Nat} {r1 : Nat} {r2 : Nat} {x3 : Int32} {xs0 : Int32} (hb : jx_ret1 4 xs0 = true) : ev F lv jm_Law_law 549 [.retAddr f0, .ref r1, .ref r2, .int x3] [.int xs0] h = some (some (.int xs0), h) := ev_rB rfl rfl hb
set_option maxRecDepth 50000 in
theorem s_Law_law_550 {F : jx_F} {lv : Nat} {h : jx_H} {f0 : Nat} {r1 : Nat} {r2 : Nat} {x3 : Int32} : ev F lv jm_Law_law 550 [.retAddr f0, .ref r1, .ref r2, .int x3] [] h = ev F lv jm_Law_law 551 [.retAddr f0, .ref r1, .ref r2, .int x3] [.ref r1] h := ev_s rfl rfl rfl rfl
set_option maxRecDepth 50000 in
theorem s_Law_law_551 {F : jx_F} {lv : Nat} {h : jx_H} {f0 : Nat} {r1 : Nat} {r2 : Nat} {x3 : Int32} {rs0 : Nat} : ev F lv jm_Law_law 551 [.retAddr f0, .ref r1, .ref r2, .int x3] [.ref rs0] h = ev F lv jm_Law_law 552 [.retAddr f0, .ref r1, .ref r2, .int x3] [.retAddr f0, .ref rs0] h := ev_s rfl rfl rfl rfl
set_option maxRecDepth 50000 in
theorem s_Law_law_552 {F : jx_F} {lv : Nat} {h : jx_H} {f0 : Nat} {r1 : Nat} {r2 : Nat} {x3 : Int32} {fs0 : Nat} {rs1 : Nat} : ev F lv jm_Law_law 552 [.retAddr f0, .ref r1, .ref r2, .int x3] [.retAddr fs0, .ref rs1] h = ev F lv jm_Law_law 553 [.retAddr f0, .ref r1, .ref r2, .int x3] [.int x3, .retAddr fs0, .ref rs1] h := ev_s rfl rfl rfl rfl
set_option maxRecDepth 50000 in
theorem s_Law_law_553 {F : jx_F} {lv : Nat} {h : jx_H} {f0 : Nat} {r1 : Nat} {r2 : Nat} {x3 : Int32} {xs0 : Int32} {fs1 : Nat} {rs2 : Nat} : ev F lv jm_Law_law 553 [.retAddr f0, .ref r1, .ref r2, .int x3] [.int xs0, .retAddr fs1, .ref rs2] h = ev F lv jm_Law_law 554 [.retAddr f0, .ref r1, .ref r2, .int x3] [.int 1, .int xs0, .retAddr fs1, .ref rs2] h := ev_s rfl rfl rfl rfl
set_option maxRecDepth 50000 in
theorem s_Law_law_554 {F : jx_F} {lv : Nat} {h : jx_H} {f0 : Nat} {r1 : Nat} {r2 : Nat} {x3 : Int32} {xs0 : Int32} {xs1 : Int32} {fs2 : Nat} {rs3 : Nat} : ev F lv jm_Law_law 554 [.retAddr f0, .ref r1, .ref r2, .int x3] [.int xs0, .int xs1, .retAddr fs2, .ref rs3] h = ev F lv jm_Law_law 555 [.retAddr f0, .ref r1, .ref r2, .int x3] [.int (xs1 + xs0), .retAddr fs2, .ref rs3] h := ev_s rfl rfl rfl rfl
set_option maxRecDepth 50000 in
theorem s_Law_law_555 {F : jx_F} {lv : Nat} {h : jx_H} {f0 : Nat} {r1 : Nat} {r2 : Nat} {x3 : Int32} {xs0 : Int32} {fs1 : Nat} {rs2 : Nat} : ev F lv jm_Law_law 555 [.retAddr f0, .ref r1, .ref r2, .int x3] [.int xs0, .retAddr fs1, .ref rs2] h = jx_gi F.1 0 fs1 xs0 fun v => ev F lv jm_Law_law 556 [.retAddr f0, .ref r1, .ref r2, .int x3] [.int v, .ref rs2] h := ev_gi rfl rfl rfl rfl
set_option maxRecDepth 50000 in
theorem s_Law_law_556 {F : jx_F} {lv : Nat} {h : jx_H} {f0 : Nat} {r1 : Nat} {r2 : Nat} {x3 : Int32} {xs0 : Int32} {rs1 : Nat} (hr : jx_rcv F h 5 [.ref rs1, .int xs0] = true) : ev F (lv + 1) jm_Law_law 556 [.retAddr f0, .ref r1, .ref r2, .int x3] [.int xs0, .ref rs1] h = (rn F lv 79 [.ref rs1, .int xs0] h).bind fun q => ev F (lv + 1) jm_Law_law 559 [.retAddr f0, .ref r1, .ref r2, .int x3] (q.1.toList ++ []) q.2 := ev_cR rfl rfl rfl hr
set_option maxRecDepth 50000 in
theorem s_Law_law_559 {F : jx_F} {lv : Nat} {h : jx_H} {f0 : Nat} {r1 : Nat} {r2 : Nat} {x3 : Int32} {xs0 : Int32} : ev F lv jm_Law_law 559 [.retAddr f0, .ref r1, .ref r2, .int x3] [.int xs0] h = ev F lv jm_Law_law 560 [.retAddr f0, .ref r1, .ref r2, .int x3] [.ref r2, .int xs0] h := ev_s rfl rfl rfl rfl
set_option maxRecDepth 50000 in
theorem s_Law_law_560 {F : jx_F} {lv : Nat} {h : jx_H} {f0 : Nat} {r1 : Nat} {r2 : Nat} {x3 : Int32} {rs0 : Nat} {xs1 : Int32} : ev F lv jm_Law_law 560 [.retAddr f0, .ref r1, .ref r2, .int x3] [.ref rs0, .int xs1] h = ev F lv jm_Law_law 561 [.retAddr f0, .ref r1, .ref r2, .int x3] [.retAddr f0, .ref rs0, .int xs1] h := ev_s rfl rfl rfl rfl
set_option maxRecDepth 50000 in
theorem s_Law_law_561 {F : jx_F} {lv : Nat} {h : jx_H} {f0 : Nat} {r1 : Nat} {r2 : Nat} {x3 : Int32} {fs0 : Nat} {rs1 : Nat} {xs2 : Int32} : ev F lv jm_Law_law 561 [.retAddr f0, .ref r1, .ref r2, .int x3] [.retAddr fs0, .ref rs1, .int xs2] h = ev F lv jm_Law_law 562 [.retAddr f0, .ref r1, .ref r2, .int x3] [.int x3, .retAddr fs0, .ref rs1, .int xs2] h := ev_s rfl rfl rfl rfl
set_option maxRecDepth 50000 in
theorem s_Law_law_562 {F : jx_F} {lv : Nat} {h : jx_H} {f0 : Nat} {r1 : Nat} {r2 : Nat} {x3 : Int32} {xs0 : Int32} {fs1 : Nat} {rs2 : Nat} {xs3 : Int32} : ev F lv jm_Law_law 562 [.retAddr f0, .ref r1, .ref r2, .int x3] [.int xs0, .retAddr fs1, .ref rs2, .int xs3] h = ev F lv jm_Law_law 563 [.retAddr f0, .ref r1, .ref r2, .int x3] [.int 1, .int xs0, .retAddr fs1, .ref rs2, .int xs3] h := ev_s rfl rfl rfl rfl
set_option maxRecDepth 50000 in
theorem s_Law_law_563 {F : jx_F} {lv : Nat} {h : jx_H} {f0 : Nat} {r1 : Nat} {r2 : Nat} {x3 : Int32} {xs0 : Int32} {xs1 : Int32} {fs2 : Nat} {rs3 : Nat} {xs4 : Int32} : ev F lv jm_Law_law 563 [.retAddr f0, .ref r1, .ref r2, .int x3] [.int xs0, .int xs1, .retAddr fs2, .ref rs3, .int xs4] h = ev F lv jm_Law_law 564 [.retAddr f0, .ref r1, .ref r2, .int x3] [.int (xs1 + xs0), .retAddr fs2, .ref rs3, .int xs4] h := ev_s rfl rfl rfl rfl
set_option maxRecDepth 50000 in
theorem s_Law_law_564 {F : jx_F} {lv : Nat} {h : jx_H} {f0 : Nat} {r1 : Nat} {r2 : Nat} {x3 : Int32} {xs0 : Int32} {fs1 : Nat} {rs2 : Nat} {xs3 : Int32} : ev F lv jm_Law_law 564 [.retAddr f0, .ref r1, .ref r2, .int x3] [.int xs0, .retAddr fs1, .ref rs2, .int xs3] h = jx_gi F.1 0 fs1 xs0 fun v => ev F lv jm_Law_law 565 [.retAddr f0, .ref r1, .ref r2, .int x3] [.int v, .ref rs2, .int xs3] h := ev_gi rfl rfl rfl rfl
set_option maxRecDepth 50000 in
theorem s_Law_law_565 {F : jx_F} {lv : Nat} {h : jx_H} {f0 : Nat} {r1 : Nat} {r2 : Nat} {x3 : Int32} {xs0 : Int32} {rs1 : Nat} {xs2 : Int32} (hr : jx_rcv F h 6 [.ref rs1, .int xs0] = true) : ev F (lv + 1) jm_Law_law 565 [.retAddr f0, .ref r1, .ref r2, .int x3] [.int xs0, .ref rs1, .int xs2] h = (rn F lv 151 [.ref rs1, .int xs0] h).bind fun q => ev F (lv + 1) jm_Law_law 568 [.retAddr f0, .ref r1, .ref r2, .int x3] (q.1.toList ++ [.int xs2]) q.2 := ev_cR rfl rfl rfl hr
set_option maxRecDepth 50000 in
theorem s_Law_law_568 {F : jx_F} {lv : Nat} {h : jx_H} {f0 : Nat} {r1 : Nat} {r2 : Nat} {x3 : Int32} {xs0 : Int32} {xs1 : Int32} : ev F lv jm_Law_law 568 [.retAddr f0, .ref r1, .ref r2, .int x3] [.int xs0, .int xs1] h = if xs1 = xs0 then ev F lv jm_Law_law 1045 [.retAddr f0, .ref r1, .ref r2, .int x3] [] h else ev F lv jm_Law_law 571 [.retAddr f0, .ref r1, .ref r2, .int x3] [] h := ev_b (off := 477) (b := jx_cmpB .eq xs1 xs0) rfl rfl rfl rfl rfl (by decide)
set_option maxRecDepth 50000 in
theorem s_Law_law_571 {F : jx_F} {lv : Nat} {h : jx_H} {f0 : Nat} {r1 : Nat} {r2 : Nat} {x3 : Int32} : ev F lv jm_Law_law 571 [.retAddr f0, .ref r1, .ref r2, .int x3] [] h = ev F lv jm_Law_law 572 [.retAddr f0, .ref r1, .ref r2, .int x3] [.int 0] h := ev_s rfl rfl rfl rfl
set_option maxRecDepth 50000 in
theorem s_Law_law_572 {F : jx_F} {lv : Nat} {h : jx_H} {f0 : Nat} {r1 : Nat} {r2 : Nat} {x3 : Int32} {xs0 : Int32} (hb : jx_ret1 4 xs0 = true) : ev F lv jm_Law_law 572 [.retAddr f0, .ref r1, .ref r2, .int x3] [.int xs0] h = some (some (.int xs0), h) := ev_rB rfl rfl hb
set_option maxRecDepth 50000 in
theorem s_Law_law_573 {F : jx_F} {lv : Nat} {h : jx_H} {f0 : Nat} {r1 : Nat} {r2 : Nat} {x3 : Int32} : ev F lv jm_Law_law 573 [.retAddr f0, .ref r1, .ref r2, .int x3] [] h = ev F lv jm_Law_law 574 [.retAddr f0, .ref r1, .ref r2, .int x3] [.ref r1] h := ev_s rfl rfl rfl rfl
set_option maxRecDepth 50000 in
theorem s_Law_law_574 {F : jx_F} {lv : Nat} {h : jx_H} {f0 : Nat} {r1 : Nat} {r2 : Nat} {x3 : Int32} {rs0 : Nat} : ev F lv jm_Law_law 574 [.retAddr f0, .ref r1, .ref r2, .int x3] [.ref rs0] h = ev F lv jm_Law_law 575 [.retAddr f0, .ref r1, .ref r2, .int x3] [.retAddr f0, .ref rs0] h := ev_s rfl rfl rfl rfl
set_option maxRecDepth 50000 in
theorem s_Law_law_575 {F : jx_F} {lv : Nat} {h : jx_H} {f0 : Nat} {r1 : Nat} {r2 : Nat} {x3 : Int32} {fs0 : Nat} {rs1 : Nat} : ev F lv jm_Law_law 575 [.retAddr f0, .ref r1, .ref r2, .int x3] [.retAddr fs0, .ref rs1] h = ev F lv jm_Law_law 576 [.retAddr f0, .ref r1, .ref r2, .int x3] [.int x3, .retAddr fs0, .ref rs1] h := ev_s rfl rfl rfl rfl
set_option maxRecDepth 50000 in
theorem s_Law_law_576 {F : jx_F} {lv : Nat} {h : jx_H} {f0 : Nat} {r1 : Nat} {r2 : Nat} {x3 : Int32} {xs0 : Int32} {fs1 : Nat} {rs2 : Nat} : ev F lv jm_Law_law 576 [.retAddr f0, .ref r1, .ref r2, .int x3] [.int xs0, .retAddr fs1, .ref rs2] h = ev F lv jm_Law_law 577 [.retAddr f0, .ref r1, .ref r2, .int x3] [.int 1, .int xs0, .retAddr fs1, .ref rs2] h := ev_s rfl rfl rfl rfl
set_option maxRecDepth 50000 in
theorem s_Law_law_577 {F : jx_F} {lv : Nat} {h : jx_H} {f0 : Nat} {r1 : Nat} {r2 : Nat} {x3 : Int32} {xs0 : Int32} {xs1 : Int32} {fs2 : Nat} {rs3 : Nat} : ev F lv jm_Law_law 577 [.retAddr f0, .ref r1, .ref r2, .int x3] [.int xs0, .int xs1, .retAddr fs2, .ref rs3] h = ev F lv jm_Law_law 578 [.retAddr f0, .ref r1, .ref r2, .int x3] [.int (xs1 + xs0), .retAddr fs2, .ref rs3] h := ev_s rfl rfl rfl rfl
set_option maxRecDepth 50000 in
theorem s_Law_law_578 {F : jx_F} {lv : Nat} {h : jx_H} {f0 : Nat} {r1 : Nat} {r2 : Nat} {x3 : Int32} {xs0 : Int32} {fs1 : Nat} {rs2 : Nat} : ev F lv jm_Law_law 578 [.retAddr f0, .ref r1, .ref r2, .int x3] [.int xs0, .retAddr fs1, .ref rs2] h = jx_gi F.1 0 fs1 xs0 fun v => ev F lv jm_Law_law 579 [.retAddr f0, .ref r1, .ref r2, .int x3] [.int v, .ref rs2] h := ev_gi rfl rfl rfl rfl
set_option maxRecDepth 50000 in
theorem s_Law_law_579 {F : jx_F} {lv : Nat} {h : jx_H} {f0 : Nat} {r1 : Nat} {r2 : Nat} {x3 : Int32} {xs0 : Int32} {rs1 : Nat} : ev F lv jm_Law_law 579 [.retAddr f0, .ref r1, .ref r2, .int x3] [.int xs0, .ref rs1] h = ev F lv jm_Law_law 580 [.retAddr f0, .ref r1, .ref r2, .int x3] [.retAddr f0, .int xs0, .ref rs1] h := ev_s rfl rfl rfl rfl
set_option maxRecDepth 50000 in
theorem s_Law_law_580 {F : jx_F} {lv : Nat} {h : jx_H} {f0 : Nat} {r1 : Nat} {r2 : Nat} {x3 : Int32} {fs0 : Nat} {xs1 : Int32} {rs2 : Nat} : ev F lv jm_Law_law 580 [.retAddr f0, .ref r1, .ref r2, .int x3] [.retAddr fs0, .int xs1, .ref rs2] h = ev F lv jm_Law_law 581 [.retAddr f0, .ref r1, .ref r2, .int x3] [.int x3, .retAddr fs0, .int xs1, .ref rs2] h := ev_s rfl rfl rfl rfl
set_option maxRecDepth 50000 in
theorem s_Law_law_581 {F : jx_F} {lv : Nat} {h : jx_H} {f0 : Nat} {r1 : Nat} {r2 : Nat} {x3 : Int32} {xs0 : Int32} {fs1 : Nat} {xs2 : Int32} {rs3 : Nat} : ev F lv jm_Law_law 581 [.retAddr f0, .ref r1, .ref r2, .int x3] [.int xs0, .retAddr fs1, .int xs2, .ref rs3] h = ev F lv jm_Law_law 582 [.retAddr f0, .ref r1, .ref r2, .int x3] [.int 2, .int xs0, .retAddr fs1, .int xs2, .ref rs3] h := ev_s rfl rfl rfl rfl
set_option maxRecDepth 50000 in
theorem s_Law_law_582 {F : jx_F} {lv : Nat} {h : jx_H} {f0 : Nat} {r1 : Nat} {r2 : Nat} {x3 : Int32} {xs0 : Int32} {xs1 : Int32} {fs2 : Nat} {xs3 : Int32} {rs4 : Nat} : ev F lv jm_Law_law 582 [.retAddr f0, .ref r1, .ref r2, .int x3] [.int xs0, .int xs1, .retAddr fs2, .int xs3, .ref rs4] h = ev F lv jm_Law_law 583 [.retAddr f0, .ref r1, .ref r2, .int x3] [.int (xs1 + xs0), .retAddr fs2, .int xs3, .ref rs4] h := ev_s rfl rfl rfl rfl
set_option maxRecDepth 50000 in
theorem s_Law_law_583 {F : jx_F} {lv : Nat} {h : jx_H} {f0 : Nat} {r1 : Nat} {r2 : Nat} {x3 : Int32} {xs0 : Int32} {fs1 : Nat} {xs2 : Int32} {rs3 : Nat} : ev F lv jm_Law_law 583 [.retAddr f0, .ref r1, .ref r2, .int x3] [.int xs0, .retAddr fs1, .int xs2, .ref rs3] h = jx_gi F.1 0 fs1 xs0 fun v => ev F lv jm_Law_law 584 [.retAddr f0, .ref r1, .ref r2, .int x3] [.int v, .int xs2, .ref rs3] h := ev_gi rfl rfl rfl rfl
set_option maxRecDepth 50000 in
theorem s_Law_law_584 {F : jx_F} {lv : Nat} {h : jx_H} {f0 : Nat} {r1 : Nat} {r2 : Nat} {x3 : Int32} {xs0 : Int32} {xs1 : Int32} {rs2 : Nat} : ev F lv jm_Law_law 584 [.retAddr f0, .ref r1, .ref r2, .int x3] [.int xs0, .int xs1, .ref rs2] h = ev F lv jm_Law_law 585 [.retAddr f0, .ref r1, .ref r2, .int x3] [.retAddr f0, .int xs0, .int xs1, .ref rs2] h := ev_s rfl rfl rfl rfl
set_option maxRecDepth 50000 in
theorem s_Law_law_585 {F : jx_F} {lv : Nat} {h : jx_H} {f0 : Nat} {r1 : Nat} {r2 : Nat} {x3 : Int32} {fs0 : Nat} {xs1 : Int32} {xs2 : Int32} {rs3 : Nat} : ev F lv jm_Law_law 585 [.retAddr f0, .ref r1, .ref r2, .int x3] [.retAddr fs0, .int xs1, .int xs2, .ref rs3] h = ev F lv jm_Law_law 586 [.retAddr f0, .ref r1, .ref r2, .int x3] [.int x3, .retAddr fs0, .int xs1, .int xs2, .ref rs3] h := ev_s rfl rfl rfl rfl
set_option maxRecDepth 50000 in
theorem s_Law_law_586 {F : jx_F} {lv : Nat} {h : jx_H} {f0 : Nat} {r1 : Nat} {r2 : Nat} {x3 : Int32} {xs0 : Int32} {fs1 : Nat} {xs2 : Int32} {xs3 : Int32} {rs4 : Nat} : ev F lv jm_Law_law 586 [.retAddr f0, .ref r1, .ref r2, .int x3] [.int xs0, .retAddr fs1, .int xs2, .int xs3, .ref rs4] h = ev F lv jm_Law_law 587 [.retAddr f0, .ref r1, .ref r2, .int x3] [.int 3, .int xs0, .retAddr fs1, .int xs2, .int xs3, .ref rs4] h := ev_s rfl rfl rfl rfl
set_option maxRecDepth 50000 in
theorem s_Law_law_587 {F : jx_F} {lv : Nat} {h : jx_H} {f0 : Nat} {r1 : Nat} {r2 : Nat} {x3 : Int32} {xs0 : Int32} {xs1 : Int32} {fs2 : Nat} {xs3 : Int32} {xs4 : Int32} {rs5 : Nat} : ev F lv jm_Law_law 587 [.retAddr f0, .ref r1, .ref r2, .int x3] [.int xs0, .int xs1, .retAddr fs2, .int xs3, .int xs4, .ref rs5] h = ev F lv jm_Law_law 588 [.retAddr f0, .ref r1, .ref r2, .int x3] [.int (xs1 + xs0), .retAddr fs2, .int xs3, .int xs4, .ref rs5] h := ev_s rfl rfl rfl rfl
set_option maxRecDepth 50000 in
theorem s_Law_law_588 {F : jx_F} {lv : Nat} {h : jx_H} {f0 : Nat} {r1 : Nat} {r2 : Nat} {x3 : Int32} {xs0 : Int32} {fs1 : Nat} {xs2 : Int32} {xs3 : Int32} {rs4 : Nat} : ev F lv jm_Law_law 588 [.retAddr f0, .ref r1, .ref r2, .int x3] [.int xs0, .retAddr fs1, .int xs2, .int xs3, .ref rs4] h = jx_gi F.1 0 fs1 xs0 fun v => ev F lv jm_Law_law 589 [.retAddr f0, .ref r1, .ref r2, .int x3] [.int v, .int xs2, .int xs3, .ref rs4] h := ev_gi rfl rfl rfl rfl
set_option maxRecDepth 50000 in
theorem s_Law_law_589 {F : jx_F} {lv : Nat} {h : jx_H} {f0 : Nat} {r1 : Nat} {r2 : Nat} {x3 : Int32} {xs0 : Int32} {xs1 : Int32} {xs2 : Int32} {rs3 : Nat} (hr : jx_rcv F h 5 [.ref rs3, .int xs2, .int xs1, .int xs0] = true) : ev F (lv + 1) jm_Law_law 589 [.retAddr f0, .ref r1, .ref r2, .int x3] [.int xs0, .int xs1, .int xs2, .ref rs3] h = (rn F lv 80 [.ref rs3, .int xs2, .int xs1, .int xs0] h).bind fun q => ev F (lv + 1) jm_Law_law 592 [.retAddr f0, .ref r1, .ref r2, .int x3] (q.1.toList ++ []) q.2 := ev_cR rfl rfl rfl hr
set_option maxRecDepth 50000 in
theorem s_Law_law_592 {F : jx_F} {lv : Nat} {h : jx_H} {f0 : Nat} {r1 : Nat} {r2 : Nat} {x3 : Int32} {xs0 : Int32} : ev F lv jm_Law_law 592 [.retAddr f0, .ref r1, .ref r2, .int x3] [.int xs0] h = ev F lv jm_Law_law 593 [.retAddr f0, .ref r1, .ref r2, .int x3] [.ref r2, .int xs0] h := ev_s rfl rfl rfl rfl
set_option maxRecDepth 50000 in
theorem s_Law_law_593 {F : jx_F} {lv : Nat} {h : jx_H} {f0 : Nat} {r1 : Nat} {r2 : Nat} {x3 : Int32} {rs0 : Nat} {xs1 : Int32} : ev F lv jm_Law_law 593 [.retAddr f0, .ref r1, .ref r2, .int x3] [.ref rs0, .int xs1] h = ev F lv jm_Law_law 594 [.retAddr f0, .ref r1, .ref r2, .int x3] [.retAddr f0, .ref rs0, .int xs1] h := ev_s rfl rfl rfl rfl
set_option maxRecDepth 50000 in
theorem s_Law_law_594 {F : jx_F} {lv : Nat} {h : jx_H} {f0 : Nat} {r1 : Nat} {r2 : Nat} {x3 : Int32} {fs0 : Nat} {rs1 : Nat} {xs2 : Int32} : ev F lv jm_Law_law 594 [.retAddr f0, .ref r1, .ref r2, .int x3] [.retAddr fs0, .ref rs1, .int xs2] h = ev F lv jm_Law_law 595 [.retAddr f0, .ref r1, .ref r2, .int x3] [.int x3, .retAddr fs0, .ref rs1, .int xs2] h := ev_s rfl rfl rfl rfl
set_option maxRecDepth 50000 in
theorem s_Law_law_595 {F : jx_F} {lv : Nat} {h : jx_H} {f0 : Nat} {r1 : Nat} {r2 : Nat} {x3 : Int32} {xs0 : Int32} {fs1 : Nat} {rs2 : Nat} {xs3 : Int32} : ev F lv jm_Law_law 595 [.retAddr f0, .ref r1, .ref r2, .int x3] [.int xs0, .retAddr fs1, .ref rs2, .int xs3] h = ev F lv jm_Law_law 596 [.retAddr f0, .ref r1, .ref r2, .int x3] [.int 1, .int xs0, .retAddr fs1, .ref rs2, .int xs3] h := ev_s rfl rfl rfl rfl
set_option maxRecDepth 50000 in
theorem s_Law_law_596 {F : jx_F} {lv : Nat} {h : jx_H} {f0 : Nat} {r1 : Nat} {r2 : Nat} {x3 : Int32} {xs0 : Int32} {xs1 : Int32} {fs2 : Nat} {rs3 : Nat} {xs4 : Int32} : ev F lv jm_Law_law 596 [.retAddr f0, .ref r1, .ref r2, .int x3] [.int xs0, .int xs1, .retAddr fs2, .ref rs3, .int xs4] h = ev F lv jm_Law_law 597 [.retAddr f0, .ref r1, .ref r2, .int x3] [.int (xs1 + xs0), .retAddr fs2, .ref rs3, .int xs4] h := ev_s rfl rfl rfl rfl
set_option maxRecDepth 50000 in
theorem s_Law_law_597 {F : jx_F} {lv : Nat} {h : jx_H} {f0 : Nat} {r1 : Nat} {r2 : Nat} {x3 : Int32} {xs0 : Int32} {fs1 : Nat} {rs2 : Nat} {xs3 : Int32} : ev F lv jm_Law_law 597 [.retAddr f0, .ref r1, .ref r2, .int x3] [.int xs0, .retAddr fs1, .ref rs2, .int xs3] h = jx_gi F.1 0 fs1 xs0 fun v => ev F lv jm_Law_law 598 [.retAddr f0, .ref r1, .ref r2, .int x3] [.int v, .ref rs2, .int xs3] h := ev_gi rfl rfl rfl rfl
set_option maxRecDepth 50000 in
theorem s_Law_law_598 {F : jx_F} {lv : Nat} {h : jx_H} {f0 : Nat} {r1 : Nat} {r2 : Nat} {x3 : Int32} {xs0 : Int32} {rs1 : Nat} {xs2 : Int32} : ev F lv jm_Law_law 598 [.retAddr f0, .ref r1, .ref r2, .int x3] [.int xs0, .ref rs1, .int xs2] h = ev F lv jm_Law_law 599 [.retAddr f0, .ref r1, .ref r2, .int x3] [.retAddr f0, .int xs0, .ref rs1, .int xs2] h := ev_s rfl rfl rfl rfl
set_option maxRecDepth 50000 in
theorem s_Law_law_599 {F : jx_F} {lv : Nat} {h : jx_H} {f0 : Nat} {r1 : Nat} {r2 : Nat} {x3 : Int32} {fs0 : Nat} {xs1 : Int32} {rs2 : Nat} {xs3 : Int32} : ev F lv jm_Law_law 599 [.retAddr f0, .ref r1, .ref r2, .int x3] [.retAddr fs0, .int xs1, .ref rs2, .int xs3] h = ev F lv jm_Law_law 600 [.retAddr f0, .ref r1, .ref r2, .int x3] [.int x3, .retAddr fs0, .int xs1, .ref rs2, .int xs3] h := ev_s rfl rfl rfl rfl
set_option maxRecDepth 50000 in
theorem s_Law_law_600 {F : jx_F} {lv : Nat} {h : jx_H} {f0 : Nat} {r1 : Nat} {r2 : Nat} {x3 : Int32} {xs0 : Int32} {fs1 : Nat} {xs2 : Int32} {rs3 : Nat} {xs4 : Int32} : ev F lv jm_Law_law 600 [.retAddr f0, .ref r1, .ref r2, .int x3] [.int xs0, .retAddr fs1, .int xs2, .ref rs3, .int xs4] h = ev F lv jm_Law_law 601 [.retAddr f0, .ref r1, .ref r2, .int x3] [.int 2, .int xs0, .retAddr fs1, .int xs2, .ref rs3, .int xs4] h := ev_s rfl rfl rfl rfl
set_option maxRecDepth 50000 in
theorem s_Law_law_601 {F : jx_F} {lv : Nat} {h : jx_H} {f0 : Nat} {r1 : Nat} {r2 : Nat} {x3 : Int32} {xs0 : Int32} {xs1 : Int32} {fs2 : Nat} {xs3 : Int32} {rs4 : Nat} {xs5 : Int32} : ev F lv jm_Law_law 601 [.retAddr f0, .ref r1, .ref r2, .int x3] [.int xs0, .int xs1, .retAddr fs2, .int xs3, .ref rs4, .int xs5] h = ev F lv jm_Law_law 602 [.retAddr f0, .ref r1, .ref r2, .int x3] [.int (xs1 + xs0), .retAddr fs2, .int xs3, .ref rs4, .int xs5] h := ev_s rfl rfl rfl rfl
set_option maxRecDepth 50000 in
theorem s_Law_law_602 {F : jx_F} {lv : Nat} {h : jx_H} {f0 : Nat} {r1 : Nat} {r2 : Nat} {x3 : Int32} {xs0 : Int32} {fs1 : Nat} {xs2 : Int32} {rs3 : Nat} {xs4 : Int32} : ev F lv jm_Law_law 602 [.retAddr f0, .ref r1, .ref r2, .int x3] [.int xs0, .retAddr fs1, .int xs2, .ref rs3, .int xs4] h = jx_gi F.1 0 fs1 xs0 fun v => ev F lv jm_Law_law 603 [.retAddr f0, .ref r1, .ref r2, .int x3] [.int v, .int xs2, .ref rs3, .int xs4] h := ev_gi rfl rfl rfl rfl
set_option maxRecDepth 50000 in
theorem s_Law_law_603 {F : jx_F} {lv : Nat} {h : jx_H} {f0 : Nat} {r1 : Nat} {r2 : Nat} {x3 : Int32} {xs0 : Int32} {xs1 : Int32} {rs2 : Nat} {xs3 : Int32} : ev F lv jm_Law_law 603 [.retAddr f0, .ref r1, .ref r2, .int x3] [.int xs0, .int xs1, .ref rs2, .int xs3] h = ev F lv jm_Law_law 604 [.retAddr f0, .ref r1, .ref r2, .int x3] [.retAddr f0, .int xs0, .int xs1, .ref rs2, .int xs3] h := ev_s rfl rfl rfl rfl
set_option maxRecDepth 50000 in
theorem s_Law_law_604 {F : jx_F} {lv : Nat} {h : jx_H} {f0 : Nat} {r1 : Nat} {r2 : Nat} {x3 : Int32} {fs0 : Nat} {xs1 : Int32} {xs2 : Int32} {rs3 : Nat} {xs4 : Int32} : ev F lv jm_Law_law 604 [.retAddr f0, .ref r1, .ref r2, .int x3] [.retAddr fs0, .int xs1, .int xs2, .ref rs3, .int xs4] h = ev F lv jm_Law_law 605 [.retAddr f0, .ref r1, .ref r2, .int x3] [.int x3, .retAddr fs0, .int xs1, .int xs2, .ref rs3, .int xs4] h := ev_s rfl rfl rfl rfl
set_option maxRecDepth 50000 in
theorem s_Law_law_605 {F : jx_F} {lv : Nat} {h : jx_H} {f0 : Nat} {r1 : Nat} {r2 : Nat} {x3 : Int32} {xs0 : Int32} {fs1 : Nat} {xs2 : Int32} {xs3 : Int32} {rs4 : Nat} {xs5 : Int32} : ev F lv jm_Law_law 605 [.retAddr f0, .ref r1, .ref r2, .int x3] [.int xs0, .retAddr fs1, .int xs2, .int xs3, .ref rs4, .int xs5] h = ev F lv jm_Law_law 606 [.retAddr f0, .ref r1, .ref r2, .int x3] [.int 3, .int xs0, .retAddr fs1, .int xs2, .int xs3, .ref rs4, .int xs5] h := ev_s rfl rfl rfl rfl
set_option maxRecDepth 50000 in
theorem s_Law_law_606 {F : jx_F} {lv : Nat} {h : jx_H} {f0 : Nat} {r1 : Nat} {r2 : Nat} {x3 : Int32} {xs0 : Int32} {xs1 : Int32} {fs2 : Nat} {xs3 : Int32} {xs4 : Int32} {rs5 : Nat} {xs6 : Int32} : ev F lv jm_Law_law 606 [.retAddr f0, .ref r1, .ref r2, .int x3] [.int xs0, .int xs1, .retAddr fs2, .int xs3, .int xs4, .ref rs5, .int xs6] h = ev F lv jm_Law_law 607 [.retAddr f0, .ref r1, .ref r2, .int x3] [.int (xs1 + xs0), .retAddr fs2, .int xs3, .int xs4, .ref rs5, .int xs6] h := ev_s rfl rfl rfl rfl
set_option maxRecDepth 50000 in
theorem s_Law_law_607 {F : jx_F} {lv : Nat} {h : jx_H} {f0 : Nat} {r1 : Nat} {r2 : Nat} {x3 : Int32} {xs0 : Int32} {fs1 : Nat} {xs2 : Int32} {xs3 : Int32} {rs4 : Nat} {xs5 : Int32} : ev F lv jm_Law_law 607 [.retAddr f0, .ref r1, .ref r2, .int x3] [.int xs0, .retAddr fs1, .int xs2, .int xs3, .ref rs4, .int xs5] h = jx_gi F.1 0 fs1 xs0 fun v => ev F lv jm_Law_law 608 [.retAddr f0, .ref r1, .ref r2, .int x3] [.int v, .int xs2, .int xs3, .ref rs4, .int xs5] h := ev_gi rfl rfl rfl rfl
set_option maxRecDepth 50000 in
theorem s_Law_law_608 {F : jx_F} {lv : Nat} {h : jx_H} {f0 : Nat} {r1 : Nat} {r2 : Nat} {x3 : Int32} {xs0 : Int32} {xs1 : Int32} {xs2 : Int32} {rs3 : Nat} {xs4 : Int32} (hr : jx_rcv F h 6 [.ref rs3, .int xs2, .int xs1, .int xs0] = true) : ev F (lv + 1) jm_Law_law 608 [.retAddr f0, .ref r1, .ref r2, .int x3] [.int xs0, .int xs1, .int xs2, .ref rs3, .int xs4] h = (rn F lv 154 [.ref rs3, .int xs2, .int xs1, .int xs0] h).bind fun q => ev F (lv + 1) jm_Law_law 611 [.retAddr f0, .ref r1, .ref r2, .int x3] (q.1.toList ++ [.int xs4]) q.2 := ev_cR rfl rfl rfl hr
set_option maxRecDepth 50000 in
theorem s_Law_law_611 {F : jx_F} {lv : Nat} {h : jx_H} {f0 : Nat} {r1 : Nat} {r2 : Nat} {x3 : Int32} {xs0 : Int32} {xs1 : Int32} : ev F lv jm_Law_law 611 [.retAddr f0, .ref r1, .ref r2, .int x3] [.int xs0, .int xs1] h = if xs1 = xs0 then ev F lv jm_Law_law 1045 [.retAddr f0, .ref r1, .ref r2, .int x3] [] h else ev F lv jm_Law_law 614 [.retAddr f0, .ref r1, .ref r2, .int x3] [] h := ev_b (off := 434) (b := jx_cmpB .eq xs1 xs0) rfl rfl rfl rfl rfl (by decide)
set_option maxRecDepth 50000 in
theorem s_Law_law_614 {F : jx_F} {lv : Nat} {h : jx_H} {f0 : Nat} {r1 : Nat} {r2 : Nat} {x3 : Int32} : ev F lv jm_Law_law 614 [.retAddr f0, .ref r1, .ref r2, .int x3] [] h = ev F lv jm_Law_law 615 [.retAddr f0, .ref r1, .ref r2, .int x3] [.int 0] h := ev_s rfl rfl rfl rfl
set_option maxRecDepth 50000 in
theorem s_Law_law_615 {F : jx_F} {lv : Nat} {h : jx_H} {f0 : Nat} {r1 : Nat} {r2 : Nat} {x3 : Int32} {xs0 : Int32} (hb : jx_ret1 4 xs0 = true) : ev F lv jm_Law_law 615 [.retAddr f0, .ref r1, .ref r2, .int x3] [.int xs0] h = some (some (.int xs0), h) := ev_rB rfl rfl hb
set_option maxRecDepth 50000 in
theorem s_Law_law_616 {F : jx_F} {lv : Nat} {h : jx_H} {f0 : Nat} {r1 : Nat} {r2 : Nat} {x3 : Int32} : ev F lv jm_Law_law 616 [.retAddr f0, .ref r1, .ref r2, .int x3] [] h = ev F lv jm_Law_law 617 [.retAddr f0, .ref r1, .ref r2, .int x3] [.ref r1] h := ev_s rfl rfl rfl rfl
set_option maxRecDepth 50000 in
theorem s_Law_law_617 {F : jx_F} {lv : Nat} {h : jx_H} {f0 : Nat} {r1 : Nat} {r2 : Nat} {x3 : Int32} {rs0 : Nat} : ev F lv jm_Law_law 617 [.retAddr f0, .ref r1, .ref r2, .int x3] [.ref rs0] h = ev F lv jm_Law_law 618 [.retAddr f0, .ref r1, .ref r2, .int x3] [.retAddr f0, .ref rs0] h := ev_s rfl rfl rfl rfl
set_option maxRecDepth 50000 in
theorem s_Law_law_618 {F : jx_F} {lv : Nat} {h : jx_H} {f0 : Nat} {r1 : Nat} {r2 : Nat} {x3 : Int32} {fs0 : Nat} {rs1 : Nat} : ev F lv jm_Law_law 618 [.retAddr f0, .ref r1, .ref r2, .int x3] [.retAddr fs0, .ref rs1] h = ev F lv jm_Law_law 619 [.retAddr f0, .ref r1, .ref r2, .int x3] [.int x3, .retAddr fs0, .ref rs1] h := ev_s rfl rfl rfl rfl
set_option maxRecDepth 50000 in
theorem s_Law_law_619 {F : jx_F} {lv : Nat} {h : jx_H} {f0 : Nat} {r1 : Nat} {r2 : Nat} {x3 : Int32} {xs0 : Int32} {fs1 : Nat} {rs2 : Nat} : ev F lv jm_Law_law 619 [.retAddr f0, .ref r1, .ref r2, .int x3] [.int xs0, .retAddr fs1, .ref rs2] h = ev F lv jm_Law_law 620 [.retAddr f0, .ref r1, .ref r2, .int x3] [.int 1, .int xs0, .retAddr fs1, .ref rs2] h := ev_s rfl rfl rfl rfl
set_option maxRecDepth 50000 in
theorem s_Law_law_620 {F : jx_F} {lv : Nat} {h : jx_H} {f0 : Nat} {r1 : Nat} {r2 : Nat} {x3 : Int32} {xs0 : Int32} {xs1 : Int32} {fs2 : Nat} {rs3 : Nat} : ev F lv jm_Law_law 620 [.retAddr f0, .ref r1, .ref r2, .int x3] [.int xs0, .int xs1, .retAddr fs2, .ref rs3] h = ev F lv jm_Law_law 621 [.retAddr f0, .ref r1, .ref r2, .int x3] [.int (xs1 + xs0), .retAddr fs2, .ref rs3] h := ev_s rfl rfl rfl rfl
set_option maxRecDepth 50000 in
theorem s_Law_law_621 {F : jx_F} {lv : Nat} {h : jx_H} {f0 : Nat} {r1 : Nat} {r2 : Nat} {x3 : Int32} {xs0 : Int32} {fs1 : Nat} {rs2 : Nat} : ev F lv jm_Law_law 621 [.retAddr f0, .ref r1, .ref r2, .int x3] [.int xs0, .retAddr fs1, .ref rs2] h = jx_gi F.1 0 fs1 xs0 fun v => ev F lv jm_Law_law 622 [.retAddr f0, .ref r1, .ref r2, .int x3] [.int v, .ref rs2] h := ev_gi rfl rfl rfl rfl
set_option maxRecDepth 50000 in
theorem s_Law_law_622 {F : jx_F} {lv : Nat} {h : jx_H} {f0 : Nat} {r1 : Nat} {r2 : Nat} {x3 : Int32} {xs0 : Int32} {rs1 : Nat} : ev F lv jm_Law_law 622 [.retAddr f0, .ref r1, .ref r2, .int x3] [.int xs0, .ref rs1] h = ev F lv jm_Law_law 623 [.retAddr f0, .ref r1, .ref r2, .int x3] [.retAddr f0, .int xs0, .ref rs1] h := ev_s rfl rfl rfl rfl
set_option maxRecDepth 50000 in
theorem s_Law_law_623 {F : jx_F} {lv : Nat} {h : jx_H} {f0 : Nat} {r1 : Nat} {r2 : Nat} {x3 : Int32} {fs0 : Nat} {xs1 : Int32} {rs2 : Nat} : ev F lv jm_Law_law 623 [.retAddr f0, .ref r1, .ref r2, .int x3] [.retAddr fs0, .int xs1, .ref rs2] h = ev F lv jm_Law_law 624 [.retAddr f0, .ref r1, .ref r2, .int x3] [.int x3, .retAddr fs0, .int xs1, .ref rs2] h := ev_s rfl rfl rfl rfl
set_option maxRecDepth 50000 in
theorem s_Law_law_624 {F : jx_F} {lv : Nat} {h : jx_H} {f0 : Nat} {r1 : Nat} {r2 : Nat} {x3 : Int32} {xs0 : Int32} {fs1 : Nat} {xs2 : Int32} {rs3 : Nat} : ev F lv jm_Law_law 624 [.retAddr f0, .ref r1, .ref r2, .int x3] [.int xs0, .retAddr fs1, .int xs2, .ref rs3] h = ev F lv jm_Law_law 625 [.retAddr f0, .ref r1, .ref r2, .int x3] [.int 2, .int xs0, .retAddr fs1, .int xs2, .ref rs3] h := ev_s rfl rfl rfl rfl
set_option maxRecDepth 50000 in
theorem s_Law_law_625 {F : jx_F} {lv : Nat} {h : jx_H} {f0 : Nat} {r1 : Nat} {r2 : Nat} {x3 : Int32} {xs0 : Int32} {xs1 : Int32} {fs2 : Nat} {xs3 : Int32} {rs4 : Nat} : ev F lv jm_Law_law 625 [.retAddr f0, .ref r1, .ref r2, .int x3] [.int xs0, .int xs1, .retAddr fs2, .int xs3, .ref rs4] h = ev F lv jm_Law_law 626 [.retAddr f0, .ref r1, .ref r2, .int x3] [.int (xs1 + xs0), .retAddr fs2, .int xs3, .ref rs4] h := ev_s rfl rfl rfl rfl
set_option maxRecDepth 50000 in
theorem s_Law_law_626 {F : jx_F} {lv : Nat} {h : jx_H} {f0 : Nat} {r1 : Nat} {r2 : Nat} {x3 : Int32} {xs0 : Int32} {fs1 : Nat} {xs2 : Int32} {rs3 : Nat} : ev F lv jm_Law_law 626 [.retAddr f0, .ref r1, .ref r2, .int x3] [.int xs0, .retAddr fs1, .int xs2, .ref rs3] h = jx_gi F.1 0 fs1 xs0 fun v => ev F lv jm_Law_law 627 [.retAddr f0, .ref r1, .ref r2, .int x3] [.int v, .int xs2, .ref rs3] h := ev_gi rfl rfl rfl rfl
set_option maxRecDepth 50000 in
theorem s_Law_law_627 {F : jx_F} {lv : Nat} {h : jx_H} {f0 : Nat} {r1 : Nat} {r2 : Nat} {x3 : Int32} {xs0 : Int32} {xs1 : Int32} {rs2 : Nat} : ev F lv jm_Law_law 627 [.retAddr f0, .ref r1, .ref r2, .int x3] [.int xs0, .int xs1, .ref rs2] h = ev F lv jm_Law_law 628 [.retAddr f0, .ref r1, .ref r2, .int x3] [.retAddr f0, .int xs0, .int xs1, .ref rs2] h := ev_s rfl rfl rfl rfl
set_option maxRecDepth 50000 in
theorem s_Law_law_628 {F : jx_F} {lv : Nat} {h : jx_H} {f0 : Nat} {r1 : Nat} {r2 : Nat} {x3 : Int32} {fs0 : Nat} {xs1 : Int32} {xs2 : Int32} {rs3 : Nat} : ev F lv jm_Law_law 628 [.retAddr f0, .ref r1, .ref r2, .int x3] [.retAddr fs0, .int xs1, .int xs2, .ref rs3] h = ev F lv jm_Law_law 629 [.retAddr f0, .ref r1, .ref r2, .int x3] [.int x3, .retAddr fs0, .int xs1, .int xs2, .ref rs3] h := ev_s rfl rfl rfl rfl
set_option maxRecDepth 50000 in
theorem s_Law_law_629 {F : jx_F} {lv : Nat} {h : jx_H} {f0 : Nat} {r1 : Nat} {r2 : Nat} {x3 : Int32} {xs0 : Int32} {fs1 : Nat} {xs2 : Int32} {xs3 : Int32} {rs4 : Nat} : ev F lv jm_Law_law 629 [.retAddr f0, .ref r1, .ref r2, .int x3] [.int xs0, .retAddr fs1, .int xs2, .int xs3, .ref rs4] h = ev F lv jm_Law_law 630 [.retAddr f0, .ref r1, .ref r2, .int x3] [.int 3, .int xs0, .retAddr fs1, .int xs2, .int xs3, .ref rs4] h := ev_s rfl rfl rfl rfl
set_option maxRecDepth 50000 in
theorem s_Law_law_630 {F : jx_F} {lv : Nat} {h : jx_H} {f0 : Nat} {r1 : Nat} {r2 : Nat} {x3 : Int32} {xs0 : Int32} {xs1 : Int32} {fs2 : Nat} {xs3 : Int32} {xs4 : Int32} {rs5 : Nat} : ev F lv jm_Law_law 630 [.retAddr f0, .ref r1, .ref r2, .int x3] [.int xs0, .int xs1, .retAddr fs2, .int xs3, .int xs4, .ref rs5] h = ev F lv jm_Law_law 631 [.retAddr f0, .ref r1, .ref r2, .int x3] [.int (xs1 + xs0), .retAddr fs2, .int xs3, .int xs4, .ref rs5] h := ev_s rfl rfl rfl rfl
set_option maxRecDepth 50000 in
theorem s_Law_law_631 {F : jx_F} {lv : Nat} {h : jx_H} {f0 : Nat} {r1 : Nat} {r2 : Nat} {x3 : Int32} {xs0 : Int32} {fs1 : Nat} {xs2 : Int32} {xs3 : Int32} {rs4 : Nat} : ev F lv jm_Law_law 631 [.retAddr f0, .ref r1, .ref r2, .int x3] [.int xs0, .retAddr fs1, .int xs2, .int xs3, .ref rs4] h = jx_gi F.1 0 fs1 xs0 fun v => ev F lv jm_Law_law 632 [.retAddr f0, .ref r1, .ref r2, .int x3] [.int v, .int xs2, .int xs3, .ref rs4] h := ev_gi rfl rfl rfl rfl
set_option maxRecDepth 50000 in
theorem s_Law_law_632 {F : jx_F} {lv : Nat} {h : jx_H} {f0 : Nat} {r1 : Nat} {r2 : Nat} {x3 : Int32} {xs0 : Int32} {xs1 : Int32} {xs2 : Int32} {rs3 : Nat} (hr : jx_rcv F h 5 [.ref rs3, .int xs2, .int xs1, .int xs0] = true) : ev F (lv + 1) jm_Law_law 632 [.retAddr f0, .ref r1, .ref r2, .int x3] [.int xs0, .int xs1, .int xs2, .ref rs3] h = (rn F lv 81 [.ref rs3, .int xs2, .int xs1, .int xs0] h).bind fun q => ev F (lv + 1) jm_Law_law 635 [.retAddr f0, .ref r1, .ref r2, .int x3] (q.1.toList ++ []) q.2 := ev_cR rfl rfl rfl hr
set_option maxRecDepth 50000 in
theorem s_Law_law_635 {F : jx_F} {lv : Nat} {h : jx_H} {f0 : Nat} {r1 : Nat} {r2 : Nat} {x3 : Int32} {xs0 : Int32} : ev F lv jm_Law_law 635 [.retAddr f0, .ref r1, .ref r2, .int x3] [.int xs0] h = ev F lv jm_Law_law 636 [.retAddr f0, .ref r1, .ref r2, .int x3] [.ref r2, .int xs0] h := ev_s rfl rfl rfl rfl
set_option maxRecDepth 50000 in
theorem s_Law_law_636 {F : jx_F} {lv : Nat} {h : jx_H} {f0 : Nat} {r1 : Nat} {r2 : Nat} {x3 : Int32} {rs0 : Nat} {xs1 : Int32} : ev F lv jm_Law_law 636 [.retAddr f0, .ref r1, .ref r2, .int x3] [.ref rs0, .int xs1] h = ev F lv jm_Law_law 637 [.retAddr f0, .ref r1, .ref r2, .int x3] [.retAddr f0, .ref rs0, .int xs1] h := ev_s rfl rfl rfl rfl
set_option maxRecDepth 50000 in
theorem s_Law_law_637 {F : jx_F} {lv : Nat} {h : jx_H} {f0 : Nat} {r1 : Nat} {r2 : Nat} {x3 : Int32} {fs0 : Nat} {rs1 : Nat} {xs2 : Int32} : ev F lv jm_Law_law 637 [.retAddr f0, .ref r1, .ref r2, .int x3] [.retAddr fs0, .ref rs1, .int xs2] h = ev F lv jm_Law_law 638 [.retAddr f0, .ref r1, .ref r2, .int x3] [.int x3, .retAddr fs0, .ref rs1, .int xs2] h := ev_s rfl rfl rfl rfl
set_option maxRecDepth 50000 in
theorem s_Law_law_638 {F : jx_F} {lv : Nat} {h : jx_H} {f0 : Nat} {r1 : Nat} {r2 : Nat} {x3 : Int32} {xs0 : Int32} {fs1 : Nat} {rs2 : Nat} {xs3 : Int32} : ev F lv jm_Law_law 638 [.retAddr f0, .ref r1, .ref r2, .int x3] [.int xs0, .retAddr fs1, .ref rs2, .int xs3] h = ev F lv jm_Law_law 639 [.retAddr f0, .ref r1, .ref r2, .int x3] [.int 1, .int xs0, .retAddr fs1, .ref rs2, .int xs3] h := ev_s rfl rfl rfl rfl
set_option maxRecDepth 50000 in
theorem s_Law_law_639 {F : jx_F} {lv : Nat} {h : jx_H} {f0 : Nat} {r1 : Nat} {r2 : Nat} {x3 : Int32} {xs0 : Int32} {xs1 : Int32} {fs2 : Nat} {rs3 : Nat} {xs4 : Int32} : ev F lv jm_Law_law 639 [.retAddr f0, .ref r1, .ref r2, .int x3] [.int xs0, .int xs1, .retAddr fs2, .ref rs3, .int xs4] h = ev F lv jm_Law_law 640 [.retAddr f0, .ref r1, .ref r2, .int x3] [.int (xs1 + xs0), .retAddr fs2, .ref rs3, .int xs4] h := ev_s rfl rfl rfl rfl
set_option maxRecDepth 50000 in
theorem s_Law_law_640 {F : jx_F} {lv : Nat} {h : jx_H} {f0 : Nat} {r1 : Nat} {r2 : Nat} {x3 : Int32} {xs0 : Int32} {fs1 : Nat} {rs2 : Nat} {xs3 : Int32} : ev F lv jm_Law_law 640 [.retAddr f0, .ref r1, .ref r2, .int x3] [.int xs0, .retAddr fs1, .ref rs2, .int xs3] h = jx_gi F.1 0 fs1 xs0 fun v => ev F lv jm_Law_law 641 [.retAddr f0, .ref r1, .ref r2, .int x3] [.int v, .ref rs2, .int xs3] h := ev_gi rfl rfl rfl rfl
set_option maxRecDepth 50000 in
theorem s_Law_law_641 {F : jx_F} {lv : Nat} {h : jx_H} {f0 : Nat} {r1 : Nat} {r2 : Nat} {x3 : Int32} {xs0 : Int32} {rs1 : Nat} {xs2 : Int32} : ev F lv jm_Law_law 641 [.retAddr f0, .ref r1, .ref r2, .int x3] [.int xs0, .ref rs1, .int xs2] h = ev F lv jm_Law_law 642 [.retAddr f0, .ref r1, .ref r2, .int x3] [.retAddr f0, .int xs0, .ref rs1, .int xs2] h := ev_s rfl rfl rfl rfl
set_option maxRecDepth 50000 in
theorem s_Law_law_642 {F : jx_F} {lv : Nat} {h : jx_H} {f0 : Nat} {r1 : Nat} {r2 : Nat} {x3 : Int32} {fs0 : Nat} {xs1 : Int32} {rs2 : Nat} {xs3 : Int32} : ev F lv jm_Law_law 642 [.retAddr f0, .ref r1, .ref r2, .int x3] [.retAddr fs0, .int xs1, .ref rs2, .int xs3] h = ev F lv jm_Law_law 643 [.retAddr f0, .ref r1, .ref r2, .int x3] [.int x3, .retAddr fs0, .int xs1, .ref rs2, .int xs3] h := ev_s rfl rfl rfl rfl
set_option maxRecDepth 50000 in
theorem s_Law_law_643 {F : jx_F} {lv : Nat} {h : jx_H} {f0 : Nat} {r1 : Nat} {r2 : Nat} {x3 : Int32} {xs0 : Int32} {fs1 : Nat} {xs2 : Int32} {rs3 : Nat} {xs4 : Int32} : ev F lv jm_Law_law 643 [.retAddr f0, .ref r1, .ref r2, .int x3] [.int xs0, .retAddr fs1, .int xs2, .ref rs3, .int xs4] h = ev F lv jm_Law_law 644 [.retAddr f0, .ref r1, .ref r2, .int x3] [.int 2, .int xs0, .retAddr fs1, .int xs2, .ref rs3, .int xs4] h := ev_s rfl rfl rfl rfl
set_option maxRecDepth 50000 in
theorem s_Law_law_644 {F : jx_F} {lv : Nat} {h : jx_H} {f0 : Nat} {r1 : Nat} {r2 : Nat} {x3 : Int32} {xs0 : Int32} {xs1 : Int32} {fs2 : Nat} {xs3 : Int32} {rs4 : Nat} {xs5 : Int32} : ev F lv jm_Law_law 644 [.retAddr f0, .ref r1, .ref r2, .int x3] [.int xs0, .int xs1, .retAddr fs2, .int xs3, .ref rs4, .int xs5] h = ev F lv jm_Law_law 645 [.retAddr f0, .ref r1, .ref r2, .int x3] [.int (xs1 + xs0), .retAddr fs2, .int xs3, .ref rs4, .int xs5] h := ev_s rfl rfl rfl rfl
set_option maxRecDepth 50000 in
theorem s_Law_law_645 {F : jx_F} {lv : Nat} {h : jx_H} {f0 : Nat} {r1 : Nat} {r2 : Nat} {x3 : Int32} {xs0 : Int32} {fs1 : Nat} {xs2 : Int32} {rs3 : Nat} {xs4 : Int32} : ev F lv jm_Law_law 645 [.retAddr f0, .ref r1, .ref r2, .int x3] [.int xs0, .retAddr fs1, .int xs2, .ref rs3, .int xs4] h = jx_gi F.1 0 fs1 xs0 fun v => ev F lv jm_Law_law 646 [.retAddr f0, .ref r1, .ref r2, .int x3] [.int v, .int xs2, .ref rs3, .int xs4] h := ev_gi rfl rfl rfl rfl
set_option maxRecDepth 50000 in
theorem s_Law_law_646 {F : jx_F} {lv : Nat} {h : jx_H} {f0 : Nat} {r1 : Nat} {r2 : Nat} {x3 : Int32} {xs0 : Int32} {xs1 : Int32} {rs2 : Nat} {xs3 : Int32} : ev F lv jm_Law_law 646 [.retAddr f0, .ref r1, .ref r2, .int x3] [.int xs0, .int xs1, .ref rs2, .int xs3] h = ev F lv jm_Law_law 647 [.retAddr f0, .ref r1, .ref r2, .int x3] [.retAddr f0, .int xs0, .int xs1, .ref rs2, .int xs3] h := ev_s rfl rfl rfl rfl
set_option maxRecDepth 50000 in
theorem s_Law_law_647 {F : jx_F} {lv : Nat} {h : jx_H} {f0 : Nat} {r1 : Nat} {r2 : Nat} {x3 : Int32} {fs0 : Nat} {xs1 : Int32} {xs2 : Int32} {rs3 : Nat} {xs4 : Int32} : ev F lv jm_Law_law 647 [.retAddr f0, .ref r1, .ref r2, .int x3] [.retAddr fs0, .int xs1, .int xs2, .ref rs3, .int xs4] h = ev F lv jm_Law_law 648 [.retAddr f0, .ref r1, .ref r2, .int x3] [.int x3, .retAddr fs0, .int xs1, .int xs2, .ref rs3, .int xs4] h := ev_s rfl rfl rfl rfl
set_option maxRecDepth 50000 in
theorem s_Law_law_648 {F : jx_F} {lv : Nat} {h : jx_H} {f0 : Nat} {r1 : Nat} {r2 : Nat} {x3 : Int32} {xs0 : Int32} {fs1 : Nat} {xs2 : Int32} {xs3 : Int32} {rs4 : Nat} {xs5 : Int32} : ev F lv jm_Law_law 648 [.retAddr f0, .ref r1, .ref r2, .int x3] [.int xs0, .retAddr fs1, .int xs2, .int xs3, .ref rs4, .int xs5] h = ev F lv jm_Law_law 649 [.retAddr f0, .ref r1, .ref r2, .int x3] [.int 3, .int xs0, .retAddr fs1, .int xs2, .int xs3, .ref rs4, .int xs5] h := ev_s rfl rfl rfl rfl
set_option maxRecDepth 50000 in
theorem s_Law_law_649 {F : jx_F} {lv : Nat} {h : jx_H} {f0 : Nat} {r1 : Nat} {r2 : Nat} {x3 : Int32} {xs0 : Int32} {xs1 : Int32} {fs2 : Nat} {xs3 : Int32} {xs4 : Int32} {rs5 : Nat} {xs6 : Int32} : ev F lv jm_Law_law 649 [.retAddr f0, .ref r1, .ref r2, .int x3] [.int xs0, .int xs1, .retAddr fs2, .int xs3, .int xs4, .ref rs5, .int xs6] h = ev F lv jm_Law_law 650 [.retAddr f0, .ref r1, .ref r2, .int x3] [.int (xs1 + xs0), .retAddr fs2, .int xs3, .int xs4, .ref rs5, .int xs6] h := ev_s rfl rfl rfl rfl
set_option maxRecDepth 50000 in
theorem s_Law_law_650 {F : jx_F} {lv : Nat} {h : jx_H} {f0 : Nat} {r1 : Nat} {r2 : Nat} {x3 : Int32} {xs0 : Int32} {fs1 : Nat} {xs2 : Int32} {xs3 : Int32} {rs4 : Nat} {xs5 : Int32} : ev F lv jm_Law_law 650 [.retAddr f0, .ref r1, .ref r2, .int x3] [.int xs0, .retAddr fs1, .int xs2, .int xs3, .ref rs4, .int xs5] h = jx_gi F.1 0 fs1 xs0 fun v => ev F lv jm_Law_law 651 [.retAddr f0, .ref r1, .ref r2, .int x3] [.int v, .int xs2, .int xs3, .ref rs4, .int xs5] h := ev_gi rfl rfl rfl rfl
set_option maxRecDepth 50000 in
theorem s_Law_law_651 {F : jx_F} {lv : Nat} {h : jx_H} {f0 : Nat} {r1 : Nat} {r2 : Nat} {x3 : Int32} {xs0 : Int32} {xs1 : Int32} {xs2 : Int32} {rs3 : Nat} {xs4 : Int32} (hr : jx_rcv F h 6 [.ref rs3, .int xs2, .int xs1, .int xs0] = true) : ev F (lv + 1) jm_Law_law 651 [.retAddr f0, .ref r1, .ref r2, .int x3] [.int xs0, .int xs1, .int xs2, .ref rs3, .int xs4] h = (rn F lv 155 [.ref rs3, .int xs2, .int xs1, .int xs0] h).bind fun q => ev F (lv + 1) jm_Law_law 654 [.retAddr f0, .ref r1, .ref r2, .int x3] (q.1.toList ++ [.int xs4]) q.2 := ev_cR rfl rfl rfl hr
set_option maxRecDepth 50000 in
theorem s_Law_law_654 {F : jx_F} {lv : Nat} {h : jx_H} {f0 : Nat} {r1 : Nat} {r2 : Nat} {x3 : Int32} {xs0 : Int32} {xs1 : Int32} : ev F lv jm_Law_law 654 [.retAddr f0, .ref r1, .ref r2, .int x3] [.int xs0, .int xs1] h = if xs1 = xs0 then ev F lv jm_Law_law 1045 [.retAddr f0, .ref r1, .ref r2, .int x3] [] h else ev F lv jm_Law_law 657 [.retAddr f0, .ref r1, .ref r2, .int x3] [] h := ev_b (off := 391) (b := jx_cmpB .eq xs1 xs0) rfl rfl rfl rfl rfl (by decide)
set_option maxRecDepth 50000 in
theorem s_Law_law_657 {F : jx_F} {lv : Nat} {h : jx_H} {f0 : Nat} {r1 : Nat} {r2 : Nat} {x3 : Int32} : ev F lv jm_Law_law 657 [.retAddr f0, .ref r1, .ref r2, .int x3] [] h = ev F lv jm_Law_law 658 [.retAddr f0, .ref r1, .ref r2, .int x3] [.int 0] h := ev_s rfl rfl rfl rfl
set_option maxRecDepth 50000 in
theorem s_Law_law_658 {F : jx_F} {lv : Nat} {h : jx_H} {f0 : Nat} {r1 : Nat} {r2 : Nat} {x3 : Int32} {xs0 : Int32} (hb : jx_ret1 4 xs0 = true) : ev F lv jm_Law_law 658 [.retAddr f0, .ref r1, .ref r2, .int x3] [.int xs0] h = some (some (.int xs0), h) := ev_rB rfl rfl hb
set_option maxRecDepth 50000 in
theorem s_Law_law_659 {F : jx_F} {lv : Nat} {h : jx_H} {f0 : Nat} {r1 : Nat} {r2 : Nat} {x3 : Int32} : ev F lv jm_Law_law 659 [.retAddr f0, .ref r1, .ref r2, .int x3] [] h = ev F lv jm_Law_law 660 [.retAddr f0, .ref r1, .ref r2, .int x3] [.ref r1] h := ev_s rfl rfl rfl rfl
set_option maxRecDepth 50000 in
theorem s_Law_law_660 {F : jx_F} {lv : Nat} {h : jx_H} {f0 : Nat} {r1 : Nat} {r2 : Nat} {x3 : Int32} {rs0 : Nat} : ev F lv jm_Law_law 660 [.retAddr f0, .ref r1, .ref r2, .int x3] [.ref rs0] h = ev F lv jm_Law_law 661 [.retAddr f0, .ref r1, .ref r2, .int x3] [.retAddr f0, .ref rs0] h := ev_s rfl rfl rfl rfl
set_option maxRecDepth 50000 in
theorem s_Law_law_661 {F : jx_F} {lv : Nat} {h : jx_H} {f0 : Nat} {r1 : Nat} {r2 : Nat} {x3 : Int32} {fs0 : Nat} {rs1 : Nat} : ev F lv jm_Law_law 661 [.retAddr f0, .ref r1, .ref r2, .int x3] [.retAddr fs0, .ref rs1] h = ev F lv jm_Law_law 662 [.retAddr f0, .ref r1, .ref r2, .int x3] [.int x3, .retAddr fs0, .ref rs1] h := ev_s rfl rfl rfl rfl
set_option maxRecDepth 50000 in
theorem s_Law_law_662 {F : jx_F} {lv : Nat} {h : jx_H} {f0 : Nat} {r1 : Nat} {r2 : Nat} {x3 : Int32} {xs0 : Int32} {fs1 : Nat} {rs2 : Nat} : ev F lv jm_Law_law 662 [.retAddr f0, .ref r1, .ref r2, .int x3] [.int xs0, .retAddr fs1, .ref rs2] h = ev F lv jm_Law_law 663 [.retAddr f0, .ref r1, .ref r2, .int x3] [.int 1, .int xs0, .retAddr fs1, .ref rs2] h := ev_s rfl rfl rfl rfl
set_option maxRecDepth 50000 in
theorem s_Law_law_663 {F : jx_F} {lv : Nat} {h : jx_H} {f0 : Nat} {r1 : Nat} {r2 : Nat} {x3 : Int32} {xs0 : Int32} {xs1 : Int32} {fs2 : Nat} {rs3 : Nat} : ev F lv jm_Law_law 663 [.retAddr f0, .ref r1, .ref r2, .int x3] [.int xs0, .int xs1, .retAddr fs2, .ref rs3] h = ev F lv jm_Law_law 664 [.retAddr f0, .ref r1, .ref r2, .int x3] [.int (xs1 + xs0), .retAddr fs2, .ref rs3] h := ev_s rfl rfl rfl rfl
set_option maxRecDepth 50000 in
theorem s_Law_law_664 {F : jx_F} {lv : Nat} {h : jx_H} {f0 : Nat} {r1 : Nat} {r2 : Nat} {x3 : Int32} {xs0 : Int32} {fs1 : Nat} {rs2 : Nat} : ev F lv jm_Law_law 664 [.retAddr f0, .ref r1, .ref r2, .int x3] [.int xs0, .retAddr fs1, .ref rs2] h = jx_gi F.1 0 fs1 xs0 fun v => ev F lv jm_Law_law 665 [.retAddr f0, .ref r1, .ref r2, .int x3] [.int v, .ref rs2] h := ev_gi rfl rfl rfl rfl
set_option maxRecDepth 50000 in
theorem s_Law_law_665 {F : jx_F} {lv : Nat} {h : jx_H} {f0 : Nat} {r1 : Nat} {r2 : Nat} {x3 : Int32} {xs0 : Int32} {rs1 : Nat} : ev F lv jm_Law_law 665 [.retAddr f0, .ref r1, .ref r2, .int x3] [.int xs0, .ref rs1] h = ev F lv jm_Law_law 666 [.retAddr f0, .ref r1, .ref r2, .int x3] [.retAddr f0, .int xs0, .ref rs1] h := ev_s rfl rfl rfl rfl
set_option maxRecDepth 50000 in
theorem s_Law_law_666 {F : jx_F} {lv : Nat} {h : jx_H} {f0 : Nat} {r1 : Nat} {r2 : Nat} {x3 : Int32} {fs0 : Nat} {xs1 : Int32} {rs2 : Nat} : ev F lv jm_Law_law 666 [.retAddr f0, .ref r1, .ref r2, .int x3] [.retAddr fs0, .int xs1, .ref rs2] h = ev F lv jm_Law_law 667 [.retAddr f0, .ref r1, .ref r2, .int x3] [.int x3, .retAddr fs0, .int xs1, .ref rs2] h := ev_s rfl rfl rfl rfl
set_option maxRecDepth 50000 in
theorem s_Law_law_667 {F : jx_F} {lv : Nat} {h : jx_H} {f0 : Nat} {r1 : Nat} {r2 : Nat} {x3 : Int32} {xs0 : Int32} {fs1 : Nat} {xs2 : Int32} {rs3 : Nat} : ev F lv jm_Law_law 667 [.retAddr f0, .ref r1, .ref r2, .int x3] [.int xs0, .retAddr fs1, .int xs2, .ref rs3] h = ev F lv jm_Law_law 668 [.retAddr f0, .ref r1, .ref r2, .int x3] [.int 2, .int xs0, .retAddr fs1, .int xs2, .ref rs3] h := ev_s rfl rfl rfl rfl
set_option maxRecDepth 50000 in
theorem s_Law_law_668 {F : jx_F} {lv : Nat} {h : jx_H} {f0 : Nat} {r1 : Nat} {r2 : Nat} {x3 : Int32} {xs0 : Int32} {xs1 : Int32} {fs2 : Nat} {xs3 : Int32} {rs4 : Nat} : ev F lv jm_Law_law 668 [.retAddr f0, .ref r1, .ref r2, .int x3] [.int xs0, .int xs1, .retAddr fs2, .int xs3, .ref rs4] h = ev F lv jm_Law_law 669 [.retAddr f0, .ref r1, .ref r2, .int x3] [.int (xs1 + xs0), .retAddr fs2, .int xs3, .ref rs4] h := ev_s rfl rfl rfl rfl
set_option maxRecDepth 50000 in
theorem s_Law_law_669 {F : jx_F} {lv : Nat} {h : jx_H} {f0 : Nat} {r1 : Nat} {r2 : Nat} {x3 : Int32} {xs0 : Int32} {fs1 : Nat} {xs2 : Int32} {rs3 : Nat} : ev F lv jm_Law_law 669 [.retAddr f0, .ref r1, .ref r2, .int x3] [.int xs0, .retAddr fs1, .int xs2, .ref rs3] h = jx_gi F.1 0 fs1 xs0 fun v => ev F lv jm_Law_law 670 [.retAddr f0, .ref r1, .ref r2, .int x3] [.int v, .int xs2, .ref rs3] h := ev_gi rfl rfl rfl rfl
set_option maxRecDepth 50000 in
theorem s_Law_law_670 {F : jx_F} {lv : Nat} {h : jx_H} {f0 : Nat} {r1 : Nat} {r2 : Nat} {x3 : Int32} {xs0 : Int32} {xs1 : Int32} {rs2 : Nat} : ev F lv jm_Law_law 670 [.retAddr f0, .ref r1, .ref r2, .int x3] [.int xs0, .int xs1, .ref rs2] h = ev F lv jm_Law_law 671 [.retAddr f0, .ref r1, .ref r2, .int x3] [.retAddr f0, .int xs0, .int xs1, .ref rs2] h := ev_s rfl rfl rfl rfl
set_option maxRecDepth 50000 in
theorem s_Law_law_671 {F : jx_F} {lv : Nat} {h : jx_H} {f0 : Nat} {r1 : Nat} {r2 : Nat} {x3 : Int32} {fs0 : Nat} {xs1 : Int32} {xs2 : Int32} {rs3 : Nat} : ev F lv jm_Law_law 671 [.retAddr f0, .ref r1, .ref r2, .int x3] [.retAddr fs0, .int xs1, .int xs2, .ref rs3] h = ev F lv jm_Law_law 672 [.retAddr f0, .ref r1, .ref r2, .int x3] [.int x3, .retAddr fs0, .int xs1, .int xs2, .ref rs3] h := ev_s rfl rfl rfl rfl
set_option maxRecDepth 50000 in
theorem s_Law_law_672 {F : jx_F} {lv : Nat} {h : jx_H} {f0 : Nat} {r1 : Nat} {r2 : Nat} {x3 : Int32} {xs0 : Int32} {fs1 : Nat} {xs2 : Int32} {xs3 : Int32} {rs4 : Nat} : ev F lv jm_Law_law 672 [.retAddr f0, .ref r1, .ref r2, .int x3] [.int xs0, .retAddr fs1, .int xs2, .int xs3, .ref rs4] h = ev F lv jm_Law_law 673 [.retAddr f0, .ref r1, .ref r2, .int x3] [.int 3, .int xs0, .retAddr fs1, .int xs2, .int xs3, .ref rs4] h := ev_s rfl rfl rfl rfl
set_option maxRecDepth 50000 in
theorem s_Law_law_673 {F : jx_F} {lv : Nat} {h : jx_H} {f0 : Nat} {r1 : Nat} {r2 : Nat} {x3 : Int32} {xs0 : Int32} {xs1 : Int32} {fs2 : Nat} {xs3 : Int32} {xs4 : Int32} {rs5 : Nat} : ev F lv jm_Law_law 673 [.retAddr f0, .ref r1, .ref r2, .int x3] [.int xs0, .int xs1, .retAddr fs2, .int xs3, .int xs4, .ref rs5] h = ev F lv jm_Law_law 674 [.retAddr f0, .ref r1, .ref r2, .int x3] [.int (xs1 + xs0), .retAddr fs2, .int xs3, .int xs4, .ref rs5] h := ev_s rfl rfl rfl rfl
set_option maxRecDepth 50000 in
theorem s_Law_law_674 {F : jx_F} {lv : Nat} {h : jx_H} {f0 : Nat} {r1 : Nat} {r2 : Nat} {x3 : Int32} {xs0 : Int32} {fs1 : Nat} {xs2 : Int32} {xs3 : Int32} {rs4 : Nat} : ev F lv jm_Law_law 674 [.retAddr f0, .ref r1, .ref r2, .int x3] [.int xs0, .retAddr fs1, .int xs2, .int xs3, .ref rs4] h = jx_gi F.1 0 fs1 xs0 fun v => ev F lv jm_Law_law 675 [.retAddr f0, .ref r1, .ref r2, .int x3] [.int v, .int xs2, .int xs3, .ref rs4] h := ev_gi rfl rfl rfl rfl
set_option maxRecDepth 50000 in
theorem s_Law_law_675 {F : jx_F} {lv : Nat} {h : jx_H} {f0 : Nat} {r1 : Nat} {r2 : Nat} {x3 : Int32} {xs0 : Int32} {xs1 : Int32} {xs2 : Int32} {rs3 : Nat} (hr : jx_rcv F h 5 [.ref rs3, .int xs2, .int xs1, .int xs0] = true) : ev F (lv + 1) jm_Law_law 675 [.retAddr f0, .ref r1, .ref r2, .int x3] [.int xs0, .int xs1, .int xs2, .ref rs3] h = (rn F lv 82 [.ref rs3, .int xs2, .int xs1, .int xs0] h).bind fun q => ev F (lv + 1) jm_Law_law 678 [.retAddr f0, .ref r1, .ref r2, .int x3] (q.1.toList ++ []) q.2 := ev_cR rfl rfl rfl hr
set_option maxRecDepth 50000 in
theorem s_Law_law_678 {F : jx_F} {lv : Nat} {h : jx_H} {f0 : Nat} {r1 : Nat} {r2 : Nat} {x3 : Int32} {xs0 : Int32} : ev F lv jm_Law_law 678 [.retAddr f0, .ref r1, .ref r2, .int x3] [.int xs0] h = ev F lv jm_Law_law 679 [.retAddr f0, .ref r1, .ref r2, .int x3] [.ref r2, .int xs0] h := ev_s rfl rfl rfl rfl
set_option maxRecDepth 50000 in
theorem s_Law_law_679 {F : jx_F} {lv : Nat} {h : jx_H} {f0 : Nat} {r1 : Nat} {r2 : Nat} {x3 : Int32} {rs0 : Nat} {xs1 : Int32} : ev F lv jm_Law_law 679 [.retAddr f0, .ref r1, .ref r2, .int x3] [.ref rs0, .int xs1] h = ev F lv jm_Law_law 680 [.retAddr f0, .ref r1, .ref r2, .int x3] [.retAddr f0, .ref rs0, .int xs1] h := ev_s rfl rfl rfl rfl
set_option maxRecDepth 50000 in
theorem s_Law_law_680 {F : jx_F} {lv : Nat} {h : jx_H} {f0 : Nat} {r1 : Nat} {r2 : Nat} {x3 : Int32} {fs0 : Nat} {rs1 : Nat} {xs2 : Int32} : ev F lv jm_Law_law 680 [.retAddr f0, .ref r1, .ref r2, .int x3] [.retAddr fs0, .ref rs1, .int xs2] h = ev F lv jm_Law_law 681 [.retAddr f0, .ref r1, .ref r2, .int x3] [.int x3, .retAddr fs0, .ref rs1, .int xs2] h := ev_s rfl rfl rfl rfl
set_option maxRecDepth 50000 in
theorem s_Law_law_681 {F : jx_F} {lv : Nat} {h : jx_H} {f0 : Nat} {r1 : Nat} {r2 : Nat} {x3 : Int32} {xs0 : Int32} {fs1 : Nat} {rs2 : Nat} {xs3 : Int32} : ev F lv jm_Law_law 681 [.retAddr f0, .ref r1, .ref r2, .int x3] [.int xs0, .retAddr fs1, .ref rs2, .int xs3] h = ev F lv jm_Law_law 682 [.retAddr f0, .ref r1, .ref r2, .int x3] [.int 1, .int xs0, .retAddr fs1, .ref rs2, .int xs3] h := ev_s rfl rfl rfl rfl
set_option maxRecDepth 50000 in
theorem s_Law_law_682 {F : jx_F} {lv : Nat} {h : jx_H} {f0 : Nat} {r1 : Nat} {r2 : Nat} {x3 : Int32} {xs0 : Int32} {xs1 : Int32} {fs2 : Nat} {rs3 : Nat} {xs4 : Int32} : ev F lv jm_Law_law 682 [.retAddr f0, .ref r1, .ref r2, .int x3] [.int xs0, .int xs1, .retAddr fs2, .ref rs3, .int xs4] h = ev F lv jm_Law_law 683 [.retAddr f0, .ref r1, .ref r2, .int x3] [.int (xs1 + xs0), .retAddr fs2, .ref rs3, .int xs4] h := ev_s rfl rfl rfl rfl
set_option maxRecDepth 50000 in
theorem s_Law_law_683 {F : jx_F} {lv : Nat} {h : jx_H} {f0 : Nat} {r1 : Nat} {r2 : Nat} {x3 : Int32} {xs0 : Int32} {fs1 : Nat} {rs2 : Nat} {xs3 : Int32} : ev F lv jm_Law_law 683 [.retAddr f0, .ref r1, .ref r2, .int x3] [.int xs0, .retAddr fs1, .ref rs2, .int xs3] h = jx_gi F.1 0 fs1 xs0 fun v => ev F lv jm_Law_law 684 [.retAddr f0, .ref r1, .ref r2, .int x3] [.int v, .ref rs2, .int xs3] h := ev_gi rfl rfl rfl rfl
set_option maxRecDepth 50000 in
theorem s_Law_law_684 {F : jx_F} {lv : Nat} {h : jx_H} {f0 : Nat} {r1 : Nat} {r2 : Nat} {x3 : Int32} {xs0 : Int32} {rs1 : Nat} {xs2 : Int32} : ev F lv jm_Law_law 684 [.retAddr f0, .ref r1, .ref r2, .int x3] [.int xs0, .ref rs1, .int xs2] h = ev F lv jm_Law_law 685 [.retAddr f0, .ref r1, .ref r2, .int x3] [.retAddr f0, .int xs0, .ref rs1, .int xs2] h := ev_s rfl rfl rfl rfl
set_option maxRecDepth 50000 in
theorem s_Law_law_685 {F : jx_F} {lv : Nat} {h : jx_H} {f0 : Nat} {r1 : Nat} {r2 : Nat} {x3 : Int32} {fs0 : Nat} {xs1 : Int32} {rs2 : Nat} {xs3 : Int32} : ev F lv jm_Law_law 685 [.retAddr f0, .ref r1, .ref r2, .int x3] [.retAddr fs0, .int xs1, .ref rs2, .int xs3] h = ev F lv jm_Law_law 686 [.retAddr f0, .ref r1, .ref r2, .int x3] [.int x3, .retAddr fs0, .int xs1, .ref rs2, .int xs3] h := ev_s rfl rfl rfl rfl
set_option maxRecDepth 50000 in
theorem s_Law_law_686 {F : jx_F} {lv : Nat} {h : jx_H} {f0 : Nat} {r1 : Nat} {r2 : Nat} {x3 : Int32} {xs0 : Int32} {fs1 : Nat} {xs2 : Int32} {rs3 : Nat} {xs4 : Int32} : ev F lv jm_Law_law 686 [.retAddr f0, .ref r1, .ref r2, .int x3] [.int xs0, .retAddr fs1, .int xs2, .ref rs3, .int xs4] h = ev F lv jm_Law_law 687 [.retAddr f0, .ref r1, .ref r2, .int x3] [.int 2, .int xs0, .retAddr fs1, .int xs2, .ref rs3, .int xs4] h := ev_s rfl rfl rfl rfl
set_option maxRecDepth 50000 in
theorem s_Law_law_687 {F : jx_F} {lv : Nat} {h : jx_H} {f0 : Nat} {r1 : Nat} {r2 : Nat} {x3 : Int32} {xs0 : Int32} {xs1 : Int32} {fs2 : Nat} {xs3 : Int32} {rs4 : Nat} {xs5 : Int32} : ev F lv jm_Law_law 687 [.retAddr f0, .ref r1, .ref r2, .int x3] [.int xs0, .int xs1, .retAddr fs2, .int xs3, .ref rs4, .int xs5] h = ev F lv jm_Law_law 688 [.retAddr f0, .ref r1, .ref r2, .int x3] [.int (xs1 + xs0), .retAddr fs2, .int xs3, .ref rs4, .int xs5] h := ev_s rfl rfl rfl rfl
set_option maxRecDepth 50000 in
theorem s_Law_law_688 {F : jx_F} {lv : Nat} {h : jx_H} {f0 : Nat} {r1 : Nat} {r2 : Nat} {x3 : Int32} {xs0 : Int32} {fs1 : Nat} {xs2 : Int32} {rs3 : Nat} {xs4 : Int32} : ev F lv jm_Law_law 688 [.retAddr f0, .ref r1, .ref r2, .int x3] [.int xs0, .retAddr fs1, .int xs2, .ref rs3, .int xs4] h = jx_gi F.1 0 fs1 xs0 fun v => ev F lv jm_Law_law 689 [.retAddr f0, .ref r1, .ref r2, .int x3] [.int v, .int xs2, .ref rs3, .int xs4] h := ev_gi rfl rfl rfl rfl
set_option maxRecDepth 50000 in
theorem s_Law_law_689 {F : jx_F} {lv : Nat} {h : jx_H} {f0 : Nat} {r1 : Nat} {r2 : Nat} {x3 : Int32} {xs0 : Int32} {xs1 : Int32} {rs2 : Nat} {xs3 : Int32} : ev F lv jm_Law_law 689 [.retAddr f0, .ref r1, .ref r2, .int x3] [.int xs0, .int xs1, .ref rs2, .int xs3] h = ev F lv jm_Law_law 690 [.retAddr f0, .ref r1, .ref r2, .int x3] [.retAddr f0, .int xs0, .int xs1, .ref rs2, .int xs3] h := ev_s rfl rfl rfl rfl
set_option maxRecDepth 50000 in
theorem s_Law_law_690 {F : jx_F} {lv : Nat} {h : jx_H} {f0 : Nat} {r1 : Nat} {r2 : Nat} {x3 : Int32} {fs0 : Nat} {xs1 : Int32} {xs2 : Int32} {rs3 : Nat} {xs4 : Int32} : ev F lv jm_Law_law 690 [.retAddr f0, .ref r1, .ref r2, .int x3] [.retAddr fs0, .int xs1, .int xs2, .ref rs3, .int xs4] h = ev F lv jm_Law_law 691 [.retAddr f0, .ref r1, .ref r2, .int x3] [.int x3, .retAddr fs0, .int xs1, .int xs2, .ref rs3, .int xs4] h := ev_s rfl rfl rfl rfl
set_option maxRecDepth 50000 in
theorem s_Law_law_691 {F : jx_F} {lv : Nat} {h : jx_H} {f0 : Nat} {r1 : Nat} {r2 : Nat} {x3 : Int32} {xs0 : Int32} {fs1 : Nat} {xs2 : Int32} {xs3 : Int32} {rs4 : Nat} {xs5 : Int32} : ev F lv jm_Law_law 691 [.retAddr f0, .ref r1, .ref r2, .int x3] [.int xs0, .retAddr fs1, .int xs2, .int xs3, .ref rs4, .int xs5] h = ev F lv jm_Law_law 692 [.retAddr f0, .ref r1, .ref r2, .int x3] [.int 3, .int xs0, .retAddr fs1, .int xs2, .int xs3, .ref rs4, .int xs5] h := ev_s rfl rfl rfl rfl
set_option maxRecDepth 50000 in
theorem s_Law_law_692 {F : jx_F} {lv : Nat} {h : jx_H} {f0 : Nat} {r1 : Nat} {r2 : Nat} {x3 : Int32} {xs0 : Int32} {xs1 : Int32} {fs2 : Nat} {xs3 : Int32} {xs4 : Int32} {rs5 : Nat} {xs6 : Int32} : ev F lv jm_Law_law 692 [.retAddr f0, .ref r1, .ref r2, .int x3] [.int xs0, .int xs1, .retAddr fs2, .int xs3, .int xs4, .ref rs5, .int xs6] h = ev F lv jm_Law_law 693 [.retAddr f0, .ref r1, .ref r2, .int x3] [.int (xs1 + xs0), .retAddr fs2, .int xs3, .int xs4, .ref rs5, .int xs6] h := ev_s rfl rfl rfl rfl
set_option maxRecDepth 50000 in
theorem s_Law_law_693 {F : jx_F} {lv : Nat} {h : jx_H} {f0 : Nat} {r1 : Nat} {r2 : Nat} {x3 : Int32} {xs0 : Int32} {fs1 : Nat} {xs2 : Int32} {xs3 : Int32} {rs4 : Nat} {xs5 : Int32} : ev F lv jm_Law_law 693 [.retAddr f0, .ref r1, .ref r2, .int x3] [.int xs0, .retAddr fs1, .int xs2, .int xs3, .ref rs4, .int xs5] h = jx_gi F.1 0 fs1 xs0 fun v => ev F lv jm_Law_law 694 [.retAddr f0, .ref r1, .ref r2, .int x3] [.int v, .int xs2, .int xs3, .ref rs4, .int xs5] h := ev_gi rfl rfl rfl rfl
set_option maxRecDepth 50000 in
theorem s_Law_law_694 {F : jx_F} {lv : Nat} {h : jx_H} {f0 : Nat} {r1 : Nat} {r2 : Nat} {x3 : Int32} {xs0 : Int32} {xs1 : Int32} {xs2 : Int32} {rs3 : Nat} {xs4 : Int32} (hr : jx_rcv F h 6 [.ref rs3, .int xs2, .int xs1, .int xs0] = true) : ev F (lv + 1) jm_Law_law 694 [.retAddr f0, .ref r1, .ref r2, .int x3] [.int xs0, .int xs1, .int xs2, .ref rs3, .int xs4] h = (rn F lv 156 [.ref rs3, .int xs2, .int xs1, .int xs0] h).bind fun q => ev F (lv + 1) jm_Law_law 697 [.retAddr f0, .ref r1, .ref r2, .int x3] (q.1.toList ++ [.int xs4]) q.2 := ev_cR rfl rfl rfl hr
set_option maxRecDepth 50000 in
theorem s_Law_law_697 {F : jx_F} {lv : Nat} {h : jx_H} {f0 : Nat} {r1 : Nat} {r2 : Nat} {x3 : Int32} {xs0 : Int32} {xs1 : Int32} : ev F lv jm_Law_law 697 [.retAddr f0, .ref r1, .ref r2, .int x3] [.int xs0, .int xs1] h = if xs1 = xs0 then ev F lv jm_Law_law 1045 [.retAddr f0, .ref r1, .ref r2, .int x3] [] h else ev F lv jm_Law_law 700 [.retAddr f0, .ref r1, .ref r2, .int x3] [] h := ev_b (off := 348) (b := jx_cmpB .eq xs1 xs0) rfl rfl rfl rfl rfl (by decide)
set_option maxRecDepth 50000 in
theorem s_Law_law_700 {F : jx_F} {lv : Nat} {h : jx_H} {f0 : Nat} {r1 : Nat} {r2 : Nat} {x3 : Int32} : ev F lv jm_Law_law 700 [.retAddr f0, .ref r1, .ref r2, .int x3] [] h = ev F lv jm_Law_law 701 [.retAddr f0, .ref r1, .ref r2, .int x3] [.int 0] h := ev_s rfl rfl rfl rfl
set_option maxRecDepth 50000 in
theorem s_Law_law_701 {F : jx_F} {lv : Nat} {h : jx_H} {f0 : Nat} {r1 : Nat} {r2 : Nat} {x3 : Int32} {xs0 : Int32} (hb : jx_ret1 4 xs0 = true) : ev F lv jm_Law_law 701 [.retAddr f0, .ref r1, .ref r2, .int x3] [.int xs0] h = some (some (.int xs0), h) := ev_rB rfl rfl hb
set_option maxRecDepth 50000 in
theorem s_Law_law_702 {F : jx_F} {lv : Nat} {h : jx_H} {f0 : Nat} {r1 : Nat} {r2 : Nat} {x3 : Int32} : ev F lv jm_Law_law 702 [.retAddr f0, .ref r1, .ref r2, .int x3] [] h = ev F lv jm_Law_law 703 [.retAddr f0, .ref r1, .ref r2, .int x3] [.ref r1] h := ev_s rfl rfl rfl rfl
set_option maxRecDepth 50000 in
theorem s_Law_law_703 {F : jx_F} {lv : Nat} {h : jx_H} {f0 : Nat} {r1 : Nat} {r2 : Nat} {x3 : Int32} {rs0 : Nat} (hr : jx_rcv F h 5 [.ref rs0] = true) : ev F (lv + 1) jm_Law_law 703 [.retAddr f0, .ref r1, .ref r2, .int x3] [.ref rs0] h = (rn F lv 83 [.ref rs0] h).bind fun q => ev F (lv + 1) jm_Law_law 706 [.retAddr f0, .ref r1, .ref r2, .int x3] (q.1.toList ++ []) q.2 := ev_cR rfl rfl rfl hr
set_option maxRecDepth 50000 in
theorem s_Law_law_706 {F : jx_F} {lv : Nat} {h : jx_H} {f0 : Nat} {r1 : Nat} {r2 : Nat} {x3 : Int32} {xs0 : Int32} : ev F lv jm_Law_law 706 [.retAddr f0, .ref r1, .ref r2, .int x3] [.int xs0] h = ev F lv jm_Law_law 707 [.retAddr f0, .ref r1, .ref r2, .int x3] [.ref r2, .int xs0] h := ev_s rfl rfl rfl rfl
set_option maxRecDepth 50000 in
theorem s_Law_law_707 {F : jx_F} {lv : Nat} {h : jx_H} {f0 : Nat} {r1 : Nat} {r2 : Nat} {x3 : Int32} {rs0 : Nat} {xs1 : Int32} (hr : jx_rcv F h 6 [.ref rs0] = true) : ev F (lv + 1) jm_Law_law 707 [.retAddr f0, .ref r1, .ref r2, .int x3] [.ref rs0, .int xs1] h = (rn F lv 157 [.ref rs0] h).bind fun q => ev F (lv + 1) jm_Law_law 710 [.retAddr f0, .ref r1, .ref r2, .int x3] (q.1.toList ++ [.int xs1]) q.2 := ev_cR rfl rfl rfl hr
set_option maxRecDepth 50000 in
theorem s_Law_law_710 {F : jx_F} {lv : Nat} {h : jx_H} {f0 : Nat} {r1 : Nat} {r2 : Nat} {x3 : Int32} {xs0 : Int32} {xs1 : Int32} : ev F lv jm_Law_law 710 [.retAddr f0, .ref r1, .ref r2, .int x3] [.int xs0, .int xs1] h = if xs1 = xs0 then ev F lv jm_Law_law 1045 [.retAddr f0, .ref r1, .ref r2, .int x3] [] h else ev F lv jm_Law_law 713 [.retAddr f0, .ref r1, .ref r2, .int x3] [] h := ev_b (off := 335) (b := jx_cmpB .eq xs1 xs0) rfl rfl rfl rfl rfl (by decide)
set_option maxRecDepth 50000 in
theorem s_Law_law_713 {F : jx_F} {lv : Nat} {h : jx_H} {f0 : Nat} {r1 : Nat} {r2 : Nat} {x3 : Int32} : ev F lv jm_Law_law 713 [.retAddr f0, .ref r1, .ref r2, .int x3] [] h = ev F lv jm_Law_law 714 [.retAddr f0, .ref r1, .ref r2, .int x3] [.int 0] h := ev_s rfl rfl rfl rfl
set_option maxRecDepth 50000 in
theorem s_Law_law_714 {F : jx_F} {lv : Nat} {h : jx_H} {f0 : Nat} {r1 : Nat} {r2 : Nat} {x3 : Int32} {xs0 : Int32} (hb : jx_ret1 4 xs0 = true) : ev F lv jm_Law_law 714 [.retAddr f0, .ref r1, .ref r2, .int x3] [.int xs0] h = some (some (.int xs0), h) := ev_rB rfl rfl hb
set_option maxRecDepth 50000 in
theorem s_Law_law_715 {F : jx_F} {lv : Nat} {h : jx_H} {f0 : Nat} {r1 : Nat} {r2 : Nat} {x3 : Int32} : ev F lv jm_Law_law 715 [.retAddr f0, .ref r1, .ref r2, .int x3] [] h = ev F lv jm_Law_law 716 [.retAddr f0, .ref r1, .ref r2, .int x3] [.ref r1] h := ev_s rfl rfl rfl rfl
set_option maxRecDepth 50000 in
theorem s_Law_law_716 {F : jx_F} {lv : Nat} {h : jx_H} {f0 : Nat} {r1 : Nat} {r2 : Nat} {x3 : Int32} {rs0 : Nat} (hr : jx_rcv F h 5 [.ref rs0] = true) : ev F (lv + 1) jm_Law_law 716 [.retAddr f0, .ref r1, .ref r2, .int x3] [.ref rs0] h = (rn F lv 84 [.ref rs0] h).bind fun q => ev F (lv + 1) jm_Law_law 719 [.retAddr f0, .ref r1, .ref r2, .int x3] (q.1.toList ++ []) q.2 := ev_cR rfl rfl rfl hr
set_option maxRecDepth 50000 in
theorem s_Law_law_719 {F : jx_F} {lv : Nat} {h : jx_H} {f0 : Nat} {r1 : Nat} {r2 : Nat} {x3 : Int32} {xs0 : Int32} : ev F lv jm_Law_law 719 [.retAddr f0, .ref r1, .ref r2, .int x3] [.int xs0] h = ev F lv jm_Law_law 720 [.retAddr f0, .ref r1, .ref r2, .int x3] [.ref r2, .int xs0] h := ev_s rfl rfl rfl rfl
set_option maxRecDepth 50000 in
theorem s_Law_law_720 {F : jx_F} {lv : Nat} {h : jx_H} {f0 : Nat} {r1 : Nat} {r2 : Nat} {x3 : Int32} {rs0 : Nat} {xs1 : Int32} (hr : jx_rcv F h 6 [.ref rs0] = true) : ev F (lv + 1) jm_Law_law 720 [.retAddr f0, .ref r1, .ref r2, .int x3] [.ref rs0, .int xs1] h = (rn F lv 159 [.ref rs0] h).bind fun q => ev F (lv + 1) jm_Law_law 723 [.retAddr f0, .ref r1, .ref r2, .int x3] (q.1.toList ++ [.int xs1]) q.2 := ev_cR rfl rfl rfl hr
set_option maxRecDepth 50000 in
theorem s_Law_law_723 {F : jx_F} {lv : Nat} {h : jx_H} {f0 : Nat} {r1 : Nat} {r2 : Nat} {x3 : Int32} {xs0 : Int32} {xs1 : Int32} : ev F lv jm_Law_law 723 [.retAddr f0, .ref r1, .ref r2, .int x3] [.int xs0, .int xs1] h = if xs1 = xs0 then ev F lv jm_Law_law 1045 [.retAddr f0, .ref r1, .ref r2, .int x3] [] h else ev F lv jm_Law_law 726 [.retAddr f0, .ref r1, .ref r2, .int x3] [] h := ev_b (off := 322) (b := jx_cmpB .eq xs1 xs0) rfl rfl rfl rfl rfl (by decide)
set_option maxRecDepth 50000 in
theorem s_Law_law_726 {F : jx_F} {lv : Nat} {h : jx_H} {f0 : Nat} {r1 : Nat} {r2 : Nat} {x3 : Int32} : ev F lv jm_Law_law 726 [.retAddr f0, .ref r1, .ref r2, .int x3] [] h = ev F lv jm_Law_law 727 [.retAddr f0, .ref r1, .ref r2, .int x3] [.int 0] h := ev_s rfl rfl rfl rfl
set_option maxRecDepth 50000 in
theorem s_Law_law_727 {F : jx_F} {lv : Nat} {h : jx_H} {f0 : Nat} {r1 : Nat} {r2 : Nat} {x3 : Int32} {xs0 : Int32} (hb : jx_ret1 4 xs0 = true) : ev F lv jm_Law_law 727 [.retAddr f0, .ref r1, .ref r2, .int x3] [.int xs0] h = some (some (.int xs0), h) := ev_rB rfl rfl hb
set_option maxRecDepth 50000 in
theorem s_Law_law_728 {F : jx_F} {lv : Nat} {h : jx_H} {f0 : Nat} {r1 : Nat} {r2 : Nat} {x3 : Int32} : ev F lv jm_Law_law 728 [.retAddr f0, .ref r1, .ref r2, .int x3] [] h = ev F lv jm_Law_law 729 [.retAddr f0, .ref r1, .ref r2, .int x3] [.ref r1] h := ev_s rfl rfl rfl rfl
set_option maxRecDepth 50000 in
theorem s_Law_law_729 {F : jx_F} {lv : Nat} {h : jx_H} {f0 : Nat} {r1 : Nat} {r2 : Nat} {x3 : Int32} {rs0 : Nat} (hr : jx_rcv F h 5 [.ref rs0] = true) : ev F (lv + 1) jm_Law_law 729 [.retAddr f0, .ref r1, .ref r2, .int x3] [.ref rs0] h = (rn F lv 85 [.ref rs0] h).bind fun q => ev F (lv + 1) jm_Law_law 732 [.retAddr f0, .ref r1, .ref r2, .int x3] (q.1.toList ++ []) q.2 := ev_cR rfl rfl rfl hr
set_option maxRecDepth 50000 in
theorem s_Law_law_732 {F : jx_F} {lv : Nat} {h : jx_H} {f0 : Nat} {r1 : Nat} {r2 : Nat} {x3 : Int32} {xs0 : Int32} : ev F lv jm_Law_law 732 [.retAddr f0, .ref r1, .ref r2, .int x3] [.int xs0] h = ev F lv jm_Law_law 733 [.retAddr f0, .ref r1, .ref r2, .int x3] [.ref r2, .int xs0] h := ev_s rfl rfl rfl rfl
set_option maxRecDepth 50000 in
theorem s_Law_law_733 {F : jx_F} {lv : Nat} {h : jx_H} {f0 : Nat} {r1 : Nat} {r2 : Nat} {x3 : Int32} {rs0 : Nat} {xs1 : Int32} (hr : jx_rcv F h 6 [.ref rs0] = true) : ev F (lv + 1) jm_Law_law 733 [.retAddr f0, .ref r1, .ref r2, .int x3] [.ref rs0, .int xs1] h = (rn F lv 160 [.ref rs0] h).bind fun q => ev F (lv + 1) jm_Law_law 736 [.retAddr f0, .ref r1, .ref r2, .int x3] (q.1.toList ++ [.int xs1]) q.2 := ev_cR rfl rfl rfl hr
set_option maxRecDepth 50000 in
theorem s_Law_law_736 {F : jx_F} {lv : Nat} {h : jx_H} {f0 : Nat} {r1 : Nat} {r2 : Nat} {x3 : Int32} {xs0 : Int32} {xs1 : Int32} : ev F lv jm_Law_law 736 [.retAddr f0, .ref r1, .ref r2, .int x3] [.int xs0, .int xs1] h = if xs1 = xs0 then ev F lv jm_Law_law 1045 [.retAddr f0, .ref r1, .ref r2, .int x3] [] h else ev F lv jm_Law_law 739 [.retAddr f0, .ref r1, .ref r2, .int x3] [] h := ev_b (off := 309) (b := jx_cmpB .eq xs1 xs0) rfl rfl rfl rfl rfl (by decide)
set_option maxRecDepth 50000 in
theorem s_Law_law_739 {F : jx_F} {lv : Nat} {h : jx_H} {f0 : Nat} {r1 : Nat} {r2 : Nat} {x3 : Int32} : ev F lv jm_Law_law 739 [.retAddr f0, .ref r1, .ref r2, .int x3] [] h = ev F lv jm_Law_law 740 [.retAddr f0, .ref r1, .ref r2, .int x3] [.int 0] h := ev_s rfl rfl rfl rfl
set_option maxRecDepth 50000 in
theorem s_Law_law_740 {F : jx_F} {lv : Nat} {h : jx_H} {f0 : Nat} {r1 : Nat} {r2 : Nat} {x3 : Int32} {xs0 : Int32} (hb : jx_ret1 4 xs0 = true) : ev F lv jm_Law_law 740 [.retAddr f0, .ref r1, .ref r2, .int x3] [.int xs0] h = some (some (.int xs0), h) := ev_rB rfl rfl hb
set_option maxRecDepth 50000 in
theorem s_Law_law_741 {F : jx_F} {lv : Nat} {h : jx_H} {f0 : Nat} {r1 : Nat} {r2 : Nat} {x3 : Int32} : ev F lv jm_Law_law 741 [.retAddr f0, .ref r1, .ref r2, .int x3] [] h = ev F lv jm_Law_law 742 [.retAddr f0, .ref r1, .ref r2, .int x3] [.ref r1] h := ev_s rfl rfl rfl rfl
set_option maxRecDepth 50000 in
theorem s_Law_law_742 {F : jx_F} {lv : Nat} {h : jx_H} {f0 : Nat} {r1 : Nat} {r2 : Nat} {x3 : Int32} {rs0 : Nat} : ev F lv jm_Law_law 742 [.retAddr f0, .ref r1, .ref r2, .int x3] [.ref rs0] h = ev F lv jm_Law_law 743 [.retAddr f0, .ref r1, .ref r2, .int x3] [.retAddr f0, .ref rs0] h := ev_s rfl rfl rfl rfl
set_option maxRecDepth 50000 in
theorem s_Law_law_743 {F : jx_F} {lv : Nat} {h : jx_H} {f0 : Nat} {r1 : Nat} {r2 : Nat} {x3 : Int32} {fs0 : Nat} {rs1 : Nat} : ev F lv jm_Law_law 743 [.retAddr f0, .ref r1, .ref r2, .int x3] [.retAddr fs0, .ref rs1] h = ev F lv jm_Law_law 744 [.retAddr f0, .ref r1, .ref r2, .int x3] [.int x3, .retAddr fs0, .ref rs1] h := ev_s rfl rfl rfl rfl
set_option maxRecDepth 50000 in
theorem s_Law_law_744 {F : jx_F} {lv : Nat} {h : jx_H} {f0 : Nat} {r1 : Nat} {r2 : Nat} {x3 : Int32} {xs0 : Int32} {fs1 : Nat} {rs2 : Nat} : ev F lv jm_Law_law 744 [.retAddr f0, .ref r1, .ref r2, .int x3] [.int xs0, .retAddr fs1, .ref rs2] h = ev F lv jm_Law_law 745 [.retAddr f0, .ref r1, .ref r2, .int x3] [.int 1, .int xs0, .retAddr fs1, .ref rs2] h := ev_s rfl rfl rfl rfl
set_option maxRecDepth 50000 in
theorem s_Law_law_745 {F : jx_F} {lv : Nat} {h : jx_H} {f0 : Nat} {r1 : Nat} {r2 : Nat} {x3 : Int32} {xs0 : Int32} {xs1 : Int32} {fs2 : Nat} {rs3 : Nat} : ev F lv jm_Law_law 745 [.retAddr f0, .ref r1, .ref r2, .int x3] [.int xs0, .int xs1, .retAddr fs2, .ref rs3] h = ev F lv jm_Law_law 746 [.retAddr f0, .ref r1, .ref r2, .int x3] [.int (xs1 + xs0), .retAddr fs2, .ref rs3] h := ev_s rfl rfl rfl rfl
set_option maxRecDepth 50000 in
theorem s_Law_law_746 {F : jx_F} {lv : Nat} {h : jx_H} {f0 : Nat} {r1 : Nat} {r2 : Nat} {x3 : Int32} {xs0 : Int32} {fs1 : Nat} {rs2 : Nat} : ev F lv jm_Law_law 746 [.retAddr f0, .ref r1, .ref r2, .int x3] [.int xs0, .retAddr fs1, .ref rs2] h = jx_gi F.1 0 fs1 xs0 fun v => ev F lv jm_Law_law 747 [.retAddr f0, .ref r1, .ref r2, .int x3] [.int v, .ref rs2] h := ev_gi rfl rfl rfl rfl
set_option maxRecDepth 50000 in
theorem s_Law_law_747 {F : jx_F} {lv : Nat} {h : jx_H} {f0 : Nat} {r1 : Nat} {r2 : Nat} {x3 : Int32} {xs0 : Int32} {rs1 : Nat} : ev F lv jm_Law_law 747 [.retAddr f0, .ref r1, .ref r2, .int x3] [.int xs0, .ref rs1] h = ev F lv jm_Law_law 748 [.retAddr f0, .ref r1, .ref r2, .int x3] [.retAddr f0, .int xs0, .ref rs1] h := ev_s rfl rfl rfl rfl
set_option maxRecDepth 50000 in
theorem s_Law_law_748 {F : jx_F} {lv : Nat} {h : jx_H} {f0 : Nat} {r1 : Nat} {r2 : Nat} {x3 : Int32} {fs0 : Nat} {xs1 : Int32} {rs2 : Nat} : ev F lv jm_Law_law 748 [.retAddr f0, .ref r1, .ref r2, .int x3] [.retAddr fs0, .int xs1, .ref rs2] h = ev F lv jm_Law_law 749 [.retAddr f0, .ref r1, .ref r2, .int x3] [.int x3, .retAddr fs0, .int xs1, .ref rs2] h := ev_s rfl rfl rfl rfl
set_option maxRecDepth 50000 in
theorem s_Law_law_749 {F : jx_F} {lv : Nat} {h : jx_H} {f0 : Nat} {r1 : Nat} {r2 : Nat} {x3 : Int32} {xs0 : Int32} {fs1 : Nat} {xs2 : Int32} {rs3 : Nat} : ev F lv jm_Law_law 749 [.retAddr f0, .ref r1, .ref r2, .int x3] [.int xs0, .retAddr fs1, .int xs2, .ref rs3] h = ev F lv jm_Law_law 750 [.retAddr f0, .ref r1, .ref r2, .int x3] [.int 2, .int xs0, .retAddr fs1, .int xs2, .ref rs3] h := ev_s rfl rfl rfl rfl
set_option maxRecDepth 50000 in
theorem s_Law_law_750 {F : jx_F} {lv : Nat} {h : jx_H} {f0 : Nat} {r1 : Nat} {r2 : Nat} {x3 : Int32} {xs0 : Int32} {xs1 : Int32} {fs2 : Nat} {xs3 : Int32} {rs4 : Nat} : ev F lv jm_Law_law 750 [.retAddr f0, .ref r1, .ref r2, .int x3] [.int xs0, .int xs1, .retAddr fs2, .int xs3, .ref rs4] h = ev F lv jm_Law_law 751 [.retAddr f0, .ref r1, .ref r2, .int x3] [.int (xs1 + xs0), .retAddr fs2, .int xs3, .ref rs4] h := ev_s rfl rfl rfl rfl
set_option maxRecDepth 50000 in
theorem s_Law_law_751 {F : jx_F} {lv : Nat} {h : jx_H} {f0 : Nat} {r1 : Nat} {r2 : Nat} {x3 : Int32} {xs0 : Int32} {fs1 : Nat} {xs2 : Int32} {rs3 : Nat} : ev F lv jm_Law_law 751 [.retAddr f0, .ref r1, .ref r2, .int x3] [.int xs0, .retAddr fs1, .int xs2, .ref rs3] h = jx_gi F.1 0 fs1 xs0 fun v => ev F lv jm_Law_law 752 [.retAddr f0, .ref r1, .ref r2, .int x3] [.int v, .int xs2, .ref rs3] h := ev_gi rfl rfl rfl rfl
set_option maxRecDepth 50000 in
theorem s_Law_law_752 {F : jx_F} {lv : Nat} {h : jx_H} {f0 : Nat} {r1 : Nat} {r2 : Nat} {x3 : Int32} {xs0 : Int32} {xs1 : Int32} {rs2 : Nat} : ev F lv jm_Law_law 752 [.retAddr f0, .ref r1, .ref r2, .int x3] [.int xs0, .int xs1, .ref rs2] h = ev F lv jm_Law_law 753 [.retAddr f0, .ref r1, .ref r2, .int x3] [.retAddr f0, .int xs0, .int xs1, .ref rs2] h := ev_s rfl rfl rfl rfl
set_option maxRecDepth 50000 in
theorem s_Law_law_753 {F : jx_F} {lv : Nat} {h : jx_H} {f0 : Nat} {r1 : Nat} {r2 : Nat} {x3 : Int32} {fs0 : Nat} {xs1 : Int32} {xs2 : Int32} {rs3 : Nat} : ev F lv jm_Law_law 753 [.retAddr f0, .ref r1, .ref r2, .int x3] [.retAddr fs0, .int xs1, .int xs2, .ref rs3] h = ev F lv jm_Law_law 754 [.retAddr f0, .ref r1, .ref r2, .int x3] [.int x3, .retAddr fs0, .int xs1, .int xs2, .ref rs3] h := ev_s rfl rfl rfl rfl
set_option maxRecDepth 50000 in
theorem s_Law_law_754 {F : jx_F} {lv : Nat} {h : jx_H} {f0 : Nat} {r1 : Nat} {r2 : Nat} {x3 : Int32} {xs0 : Int32} {fs1 : Nat} {xs2 : Int32} {xs3 : Int32} {rs4 : Nat} : ev F lv jm_Law_law 754 [.retAddr f0, .ref r1, .ref r2, .int x3] [.int xs0, .retAddr fs1, .int xs2, .int xs3, .ref rs4] h = ev F lv jm_Law_law 755 [.retAddr f0, .ref r1, .ref r2, .int x3] [.int 3, .int xs0, .retAddr fs1, .int xs2, .int xs3, .ref rs4] h := ev_s rfl rfl rfl rfl
set_option maxRecDepth 50000 in
theorem s_Law_law_755 {F : jx_F} {lv : Nat} {h : jx_H} {f0 : Nat} {r1 : Nat} {r2 : Nat} {x3 : Int32} {xs0 : Int32} {xs1 : Int32} {fs2 : Nat} {xs3 : Int32} {xs4 : Int32} {rs5 : Nat} : ev F lv jm_Law_law 755 [.retAddr f0, .ref r1, .ref r2, .int x3] [.int xs0, .int xs1, .retAddr fs2, .int xs3, .int xs4, .ref rs5] h = ev F lv jm_Law_law 756 [.retAddr f0, .ref r1, .ref r2, .int x3] [.int (xs1 + xs0), .retAddr fs2, .int xs3, .int xs4, .ref rs5] h := ev_s rfl rfl rfl rfl
set_option maxRecDepth 50000 in
theorem s_Law_law_756 {F : jx_F} {lv : Nat} {h : jx_H} {f0 : Nat} {r1 : Nat} {r2 : Nat} {x3 : Int32} {xs0 : Int32} {fs1 : Nat} {xs2 : Int32} {xs3 : Int32} {rs4 : Nat} : ev F lv jm_Law_law 756 [.retAddr f0, .ref r1, .ref r2, .int x3] [.int xs0, .retAddr fs1, .int xs2, .int xs3, .ref rs4] h = jx_gi F.1 0 fs1 xs0 fun v => ev F lv jm_Law_law 757 [.retAddr f0, .ref r1, .ref r2, .int x3] [.int v, .int xs2, .int xs3, .ref rs4] h := ev_gi rfl rfl rfl rfl
set_option maxRecDepth 50000 in
theorem s_Law_law_757 {F : jx_F} {lv : Nat} {h : jx_H} {f0 : Nat} {r1 : Nat} {r2 : Nat} {x3 : Int32} {xs0 : Int32} {xs1 : Int32} {xs2 : Int32} {rs3 : Nat} (hr : jx_rcv F h 5 [.ref rs3, .int xs2, .int xs1, .int xs0] = true) : ev F (lv + 1) jm_Law_law 757 [.retAddr f0, .ref r1, .ref r2, .int x3] [.int xs0, .int xs1, .int xs2, .ref rs3] h = (rn F lv 86 [.ref rs3, .int xs2, .int xs1, .int xs0] h).bind fun q => ev F (lv + 1) jm_Law_law 760 [.retAddr f0, .ref r1, .ref r2, .int x3] (q.1.toList ++ []) q.2 := ev_cR rfl rfl rfl hr
set_option maxRecDepth 50000 in
theorem s_Law_law_760 {F : jx_F} {lv : Nat} {h : jx_H} {f0 : Nat} {r1 : Nat} {r2 : Nat} {x3 : Int32} {xs0 : Int32} : ev F lv jm_Law_law 760 [.retAddr f0, .ref r1, .ref r2, .int x3] [.int xs0] h = ev F lv jm_Law_law 761 [.retAddr f0, .ref r1, .ref r2, .int x3] [.ref r2, .int xs0] h := ev_s rfl rfl rfl rfl
set_option maxRecDepth 50000 in
theorem s_Law_law_761 {F : jx_F} {lv : Nat} {h : jx_H} {f0 : Nat} {r1 : Nat} {r2 : Nat} {x3 : Int32} {rs0 : Nat} {xs1 : Int32} : ev F lv jm_Law_law 761 [.retAddr f0, .ref r1, .ref r2, .int x3] [.ref rs0, .int xs1] h = ev F lv jm_Law_law 762 [.retAddr f0, .ref r1, .ref r2, .int x3] [.retAddr f0, .ref rs0, .int xs1] h := ev_s rfl rfl rfl rfl
set_option maxRecDepth 50000 in
theorem s_Law_law_762 {F : jx_F} {lv : Nat} {h : jx_H} {f0 : Nat} {r1 : Nat} {r2 : Nat} {x3 : Int32} {fs0 : Nat} {rs1 : Nat} {xs2 : Int32} : ev F lv jm_Law_law 762 [.retAddr f0, .ref r1, .ref r2, .int x3] [.retAddr fs0, .ref rs1, .int xs2] h = ev F lv jm_Law_law 763 [.retAddr f0, .ref r1, .ref r2, .int x3] [.int x3, .retAddr fs0, .ref rs1, .int xs2] h := ev_s rfl rfl rfl rfl
set_option maxRecDepth 50000 in
theorem s_Law_law_763 {F : jx_F} {lv : Nat} {h : jx_H} {f0 : Nat} {r1 : Nat} {r2 : Nat} {x3 : Int32} {xs0 : Int32} {fs1 : Nat} {rs2 : Nat} {xs3 : Int32} : ev F lv jm_Law_law 763 [.retAddr f0, .ref r1, .ref r2, .int x3] [.int xs0, .retAddr fs1, .ref rs2, .int xs3] h = ev F lv jm_Law_law 764 [.retAddr f0, .ref r1, .ref r2, .int x3] [.int 1, .int xs0, .retAddr fs1, .ref rs2, .int xs3] h := ev_s rfl rfl rfl rfl
set_option maxRecDepth 50000 in
theorem s_Law_law_764 {F : jx_F} {lv : Nat} {h : jx_H} {f0 : Nat} {r1 : Nat} {r2 : Nat} {x3 : Int32} {xs0 : Int32} {xs1 : Int32} {fs2 : Nat} {rs3 : Nat} {xs4 : Int32} : ev F lv jm_Law_law 764 [.retAddr f0, .ref r1, .ref r2, .int x3] [.int xs0, .int xs1, .retAddr fs2, .ref rs3, .int xs4] h = ev F lv jm_Law_law 765 [.retAddr f0, .ref r1, .ref r2, .int x3] [.int (xs1 + xs0), .retAddr fs2, .ref rs3, .int xs4] h := ev_s rfl rfl rfl rfl
set_option maxRecDepth 50000 in
theorem s_Law_law_765 {F : jx_F} {lv : Nat} {h : jx_H} {f0 : Nat} {r1 : Nat} {r2 : Nat} {x3 : Int32} {xs0 : Int32} {fs1 : Nat} {rs2 : Nat} {xs3 : Int32} : ev F lv jm_Law_law 765 [.retAddr f0, .ref r1, .ref r2, .int x3] [.int xs0, .retAddr fs1, .ref rs2, .int xs3] h = jx_gi F.1 0 fs1 xs0 fun v => ev F lv jm_Law_law 766 [.retAddr f0, .ref r1, .ref r2, .int x3] [.int v, .ref rs2, .int xs3] h := ev_gi rfl rfl rfl rfl
set_option maxRecDepth 50000 in
theorem s_Law_law_766 {F : jx_F} {lv : Nat} {h : jx_H} {f0 : Nat} {r1 : Nat} {r2 : Nat} {x3 : Int32} {xs0 : Int32} {rs1 : Nat} {xs2 : Int32} : ev F lv jm_Law_law 766 [.retAddr f0, .ref r1, .ref r2, .int x3] [.int xs0, .ref rs1, .int xs2] h = ev F lv jm_Law_law 767 [.retAddr f0, .ref r1, .ref r2, .int x3] [.retAddr f0, .int xs0, .ref rs1, .int xs2] h := ev_s rfl rfl rfl rfl
set_option maxRecDepth 50000 in
theorem s_Law_law_767 {F : jx_F} {lv : Nat} {h : jx_H} {f0 : Nat} {r1 : Nat} {r2 : Nat} {x3 : Int32} {fs0 : Nat} {xs1 : Int32} {rs2 : Nat} {xs3 : Int32} : ev F lv jm_Law_law 767 [.retAddr f0, .ref r1, .ref r2, .int x3] [.retAddr fs0, .int xs1, .ref rs2, .int xs3] h = ev F lv jm_Law_law 768 [.retAddr f0, .ref r1, .ref r2, .int x3] [.int x3, .retAddr fs0, .int xs1, .ref rs2, .int xs3] h := ev_s rfl rfl rfl rfl
set_option maxRecDepth 50000 in
theorem s_Law_law_768 {F : jx_F} {lv : Nat} {h : jx_H} {f0 : Nat} {r1 : Nat} {r2 : Nat} {x3 : Int32} {xs0 : Int32} {fs1 : Nat} {xs2 : Int32} {rs3 : Nat} {xs4 : Int32} : ev F lv jm_Law_law 768 [.retAddr f0, .ref r1, .ref r2, .int x3] [.int xs0, .retAddr fs1, .int xs2, .ref rs3, .int xs4] h = ev F lv jm_Law_law 769 [.retAddr f0, .ref r1, .ref r2, .int x3] [.int 2, .int xs0, .retAddr fs1, .int xs2, .ref rs3, .int xs4] h := ev_s rfl rfl rfl rfl
set_option maxRecDepth 50000 in
theorem s_Law_law_769 {F : jx_F} {lv : Nat} {h : jx_H} {f0 : Nat} {r1 : Nat} {r2 : Nat} {x3 : Int32} {xs0 : Int32} {xs1 : Int32} {fs2 : Nat} {xs3 : Int32} {rs4 : Nat} {xs5 : Int32} : ev F lv jm_Law_law 769 [.retAddr f0, .ref r1, .ref r2, .int x3] [.int xs0, .int xs1, .retAddr fs2, .int xs3, .ref rs4, .int xs5] h = ev F lv jm_Law_law 770 [.retAddr f0, .ref r1, .ref r2, .int x3] [.int (xs1 + xs0), .retAddr fs2, .int xs3, .ref rs4, .int xs5] h := ev_s rfl rfl rfl rfl
set_option maxRecDepth 50000 in
theorem s_Law_law_770 {F : jx_F} {lv : Nat} {h : jx_H} {f0 : Nat} {r1 : Nat} {r2 : Nat} {x3 : Int32} {xs0 : Int32} {fs1 : Nat} {xs2 : Int32} {rs3 : Nat} {xs4 : Int32} : ev F lv jm_Law_law 770 [.retAddr f0, .ref r1, .ref r2, .int x3] [.int xs0, .retAddr fs1, .int xs2, .ref rs3, .int xs4] h = jx_gi F.1 0 fs1 xs0 fun v => ev F lv jm_Law_law 771 [.retAddr f0, .ref r1, .ref r2, .int x3] [.int v, .int xs2, .ref rs3, .int xs4] h := ev_gi rfl rfl rfl rfl
set_option maxRecDepth 50000 in
theorem s_Law_law_771 {F : jx_F} {lv : Nat} {h : jx_H} {f0 : Nat} {r1 : Nat} {r2 : Nat} {x3 : Int32} {xs0 : Int32} {xs1 : Int32} {rs2 : Nat} {xs3 : Int32} : ev F lv jm_Law_law 771 [.retAddr f0, .ref r1, .ref r2, .int x3] [.int xs0, .int xs1, .ref rs2, .int xs3] h = ev F lv jm_Law_law 772 [.retAddr f0, .ref r1, .ref r2, .int x3] [.retAddr f0, .int xs0, .int xs1, .ref rs2, .int xs3] h := ev_s rfl rfl rfl rfl
set_option maxRecDepth 50000 in
theorem s_Law_law_772 {F : jx_F} {lv : Nat} {h : jx_H} {f0 : Nat} {r1 : Nat} {r2 : Nat} {x3 : Int32} {fs0 : Nat} {xs1 : Int32} {xs2 : Int32} {rs3 : Nat} {xs4 : Int32} : ev F lv jm_Law_law 772 [.retAddr f0, .ref r1, .ref r2, .int x3] [.retAddr fs0, .int xs1, .int xs2, .ref rs3, .int xs4] h = ev F lv jm_Law_law 773 [.retAddr f0, .ref r1, .ref r2, .int x3] [.int x3, .retAddr fs0, .int xs1, .int xs2, .ref rs3, .int xs4] h := ev_s rfl rfl rfl rfl
set_option maxRecDepth 50000 in
theorem s_Law_law_773 {F : jx_F} {lv : Nat} {h : jx_H} {f0 : Nat} {r1 : Nat} {r2 : Nat} {x3 : Int32} {xs0 : Int32} {fs1 : Nat} {xs2 : Int32} {xs3 : Int32} {rs4 : Nat} {xs5 : Int32} : ev F lv jm_Law_law 773 [.retAddr f0, .ref r1, .ref r2, .int x3] [.int xs0, .retAddr fs1, .int xs2, .int xs3, .ref rs4, .int xs5] h = ev F lv jm_Law_law 774 [.retAddr f0, .ref r1, .ref r2, .int x3] [.int 3, .int xs0, .retAddr fs1, .int xs2, .int xs3, .ref rs4, .int xs5] h := ev_s rfl rfl rfl rfl
set_option maxRecDepth 50000 in
theorem s_Law_law_774 {F : jx_F} {lv : Nat} {h : jx_H} {f0 : Nat} {r1 : Nat} {r2 : Nat} {x3 : Int32} {xs0 : Int32} {xs1 : Int32} {fs2 : Nat} {xs3 : Int32} {xs4 : Int32} {rs5 : Nat} {xs6 : Int32} : ev F lv jm_Law_law 774 [.retAddr f0, .ref r1, .ref r2, .int x3] [.int xs0, .int xs1, .retAddr fs2, .int xs3, .int xs4, .ref rs5, .int xs6] h = ev F lv jm_Law_law 775 [.retAddr f0, .ref r1, .ref r2, .int x3] [.int (xs1 + xs0), .retAddr fs2, .int xs3, .int xs4, .ref rs5, .int xs6] h := ev_s rfl rfl rfl rfl
set_option maxRecDepth 50000 in
theorem s_Law_law_775 {F : jx_F} {lv : Nat} {h : jx_H} {f0 : Nat} {r1 : Nat} {r2 : Nat} {x3 : Int32} {xs0 : Int32} {fs1 : Nat} {xs2 : Int32} {xs3 : Int32} {rs4 : Nat} {xs5 : Int32} : ev F lv jm_Law_law 775 [.retAddr f0, .ref r1, .ref r2, .int x3] [.int xs0, .retAddr fs1, .int xs2, .int xs3, .ref rs4, .int xs5] h = jx_gi F.1 0 fs1 xs0 fun v => ev F lv jm_Law_law 776 [.retAddr f0, .ref r1, .ref r2, .int x3] [.int v, .int xs2, .int xs3, .ref rs4, .int xs5] h := ev_gi rfl rfl rfl rfl
set_option maxRecDepth 50000 in
theorem s_Law_law_776 {F : jx_F} {lv : Nat} {h : jx_H} {f0 : Nat} {r1 : Nat} {r2 : Nat} {x3 : Int32} {xs0 : Int32} {xs1 : Int32} {xs2 : Int32} {rs3 : Nat} {xs4 : Int32} (hr : jx_rcv F h 6 [.ref rs3, .int xs2, .int xs1, .int xs0] = true) : ev F (lv + 1) jm_Law_law 776 [.retAddr f0, .ref r1, .ref r2, .int x3] [.int xs0, .int xs1, .int xs2, .ref rs3, .int xs4] h = (rn F lv 162 [.ref rs3, .int xs2, .int xs1, .int xs0] h).bind fun q => ev F (lv + 1) jm_Law_law 779 [.retAddr f0, .ref r1, .ref r2, .int x3] (q.1.toList ++ [.int xs4]) q.2 := ev_cR rfl rfl rfl hr
set_option maxRecDepth 50000 in
theorem s_Law_law_779 {F : jx_F} {lv : Nat} {h : jx_H} {f0 : Nat} {r1 : Nat} {r2 : Nat} {x3 : Int32} {xs0 : Int32} {xs1 : Int32} : ev F lv jm_Law_law 779 [.retAddr f0, .ref r1, .ref r2, .int x3] [.int xs0, .int xs1] h = if xs1 = xs0 then ev F lv jm_Law_law 1045 [.retAddr f0, .ref r1, .ref r2, .int x3] [] h else ev F lv jm_Law_law 782 [.retAddr f0, .ref r1, .ref r2, .int x3] [] h := ev_b (off := 266) (b := jx_cmpB .eq xs1 xs0) rfl rfl rfl rfl rfl (by decide)
set_option maxRecDepth 50000 in
theorem s_Law_law_782 {F : jx_F} {lv : Nat} {h : jx_H} {f0 : Nat} {r1 : Nat} {r2 : Nat} {x3 : Int32} : ev F lv jm_Law_law 782 [.retAddr f0, .ref r1, .ref r2, .int x3] [] h = ev F lv jm_Law_law 783 [.retAddr f0, .ref r1, .ref r2, .int x3] [.int 0] h := ev_s rfl rfl rfl rfl
set_option maxRecDepth 50000 in
theorem s_Law_law_783 {F : jx_F} {lv : Nat} {h : jx_H} {f0 : Nat} {r1 : Nat} {r2 : Nat} {x3 : Int32} {xs0 : Int32} (hb : jx_ret1 4 xs0 = true) : ev F lv jm_Law_law 783 [.retAddr f0, .ref r1, .ref r2, .int x3] [.int xs0] h = some (some (.int xs0), h) := ev_rB rfl rfl hb
set_option maxRecDepth 50000 in
theorem s_Law_law_784 {F : jx_F} {lv : Nat} {h : jx_H} {f0 : Nat} {r1 : Nat} {r2 : Nat} {x3 : Int32} : ev F lv jm_Law_law 784 [.retAddr f0, .ref r1, .ref r2, .int x3] [] h = ev F lv jm_Law_law 785 [.retAddr f0, .ref r1, .ref r2, .int x3] [.ref r1] h := ev_s rfl rfl rfl rfl
set_option maxRecDepth 50000 in
theorem s_Law_law_785 {F : jx_F} {lv : Nat} {h : jx_H} {f0 : Nat} {r1 : Nat} {r2 : Nat} {x3 : Int32} {rs0 : Nat} : ev F lv jm_Law_law 785 [.retAddr f0, .ref r1, .ref r2, .int x3] [.ref rs0] h = ev F lv jm_Law_law 786 [.retAddr f0, .ref r1, .ref r2, .int x3] [.retAddr f0, .ref rs0] h := ev_s rfl rfl rfl rfl
set_option maxRecDepth 50000 in
theorem s_Law_law_786 {F : jx_F} {lv : Nat} {h : jx_H} {f0 : Nat} {r1 : Nat} {r2 : Nat} {x3 : Int32} {fs0 : Nat} {rs1 : Nat} : ev F lv jm_Law_law 786 [.retAddr f0, .ref r1, .ref r2, .int x3] [.retAddr fs0, .ref rs1] h = ev F lv jm_Law_law 787 [.retAddr f0, .ref r1, .ref r2, .int x3] [.int x3, .retAddr fs0, .ref rs1] h := ev_s rfl rfl rfl rfl
set_option maxRecDepth 50000 in
theorem s_Law_law_787 {F : jx_F} {lv : Nat} {h : jx_H} {f0 : Nat} {r1 : Nat} {r2 : Nat} {x3 : Int32} {xs0 : Int32} {fs1 : Nat} {rs2 : Nat} : ev F lv jm_Law_law 787 [.retAddr f0, .ref r1, .ref r2, .int x3] [.int xs0, .retAddr fs1, .ref rs2] h = ev F lv jm_Law_law 788 [.retAddr f0, .ref r1, .ref r2, .int x3] [.int 1, .int xs0, .retAddr fs1, .ref rs2] h := ev_s rfl rfl rfl rfl
set_option maxRecDepth 50000 in
theorem s_Law_law_788 {F : jx_F} {lv : Nat} {h : jx_H} {f0 : Nat} {r1 : Nat} {r2 : Nat} {x3 : Int32} {xs0 : Int32} {xs1 : Int32} {fs2 : Nat} {rs3 : Nat} : ev F lv jm_Law_law 788 [.retAddr f0, .ref r1, .ref r2, .int x3] [.int xs0, .int xs1, .retAddr fs2, .ref rs3] h = ev F lv jm_Law_law 789 [.retAddr f0, .ref r1, .ref r2, .int x3] [.int (xs1 + xs0), .retAddr fs2, .ref rs3] h := ev_s rfl rfl rfl rfl
set_option maxRecDepth 50000 in
theorem s_Law_law_789 {F : jx_F} {lv : Nat} {h : jx_H} {f0 : Nat} {r1 : Nat} {r2 : Nat} {x3 : Int32} {xs0 : Int32} {fs1 : Nat} {rs2 : Nat} : ev F lv jm_Law_law 789 [.retAddr f0, .ref r1, .ref r2, .int x3] [.int xs0, .retAddr fs1, .ref rs2] h = jx_gi F.1 0 fs1 xs0 fun v => ev F lv jm_Law_law 790 [.retAddr f0, .ref r1, .ref r2, .int x3] [.int v, .ref rs2] h := ev_gi rfl rfl rfl rfl
set_option maxRecDepth 50000 in
theorem s_Law_law_790 {F : jx_F} {lv : Nat} {h : jx_H} {f0 : Nat} {r1 : Nat} {r2 : Nat} {x3 : Int32} {xs0 : Int32} {rs1 : Nat} : ev F lv jm_Law_law 790 [.retAddr f0, .ref r1, .ref r2, .int x3] [.int xs0, .ref rs1] h = ev F lv jm_Law_law 791 [.retAddr f0, .ref r1, .ref r2, .int x3] [.retAddr f0, .int xs0, .ref rs1] h := ev_s rfl rfl rfl rfl
set_option maxRecDepth 50000 in
theorem s_Law_law_791 {F : jx_F} {lv : Nat} {h : jx_H} {f0 : Nat} {r1 : Nat} {r2 : Nat} {x3 : Int32} {fs0 : Nat} {xs1 : Int32} {rs2 : Nat} : ev F lv jm_Law_law 791 [.retAddr f0, .ref r1, .ref r2, .int x3] [.retAddr fs0, .int xs1, .ref rs2] h = ev F lv jm_Law_law 792 [.retAddr f0, .ref r1, .ref r2, .int x3] [.int x3, .retAddr fs0, .int xs1, .ref rs2] h := ev_s rfl rfl rfl rfl
set_option maxRecDepth 50000 in
theorem s_Law_law_792 {F : jx_F} {lv : Nat} {h : jx_H} {f0 : Nat} {r1 : Nat} {r2 : Nat} {x3 : Int32} {xs0 : Int32} {fs1 : Nat} {xs2 : Int32} {rs3 : Nat} : ev F lv jm_Law_law 792 [.retAddr f0, .ref r1, .ref r2, .int x3] [.int xs0, .retAddr fs1, .int xs2, .ref rs3] h = ev F lv jm_Law_law 793 [.retAddr f0, .ref r1, .ref r2, .int x3] [.int 2, .int xs0, .retAddr fs1, .int xs2, .ref rs3] h := ev_s rfl rfl rfl rfl
set_option maxRecDepth 50000 in
theorem s_Law_law_793 {F : jx_F} {lv : Nat} {h : jx_H} {f0 : Nat} {r1 : Nat} {r2 : Nat} {x3 : Int32} {xs0 : Int32} {xs1 : Int32} {fs2 : Nat} {xs3 : Int32} {rs4 : Nat} : ev F lv jm_Law_law 793 [.retAddr f0, .ref r1, .ref r2, .int x3] [.int xs0, .int xs1, .retAddr fs2, .int xs3, .ref rs4] h = ev F lv jm_Law_law 794 [.retAddr f0, .ref r1, .ref r2, .int x3] [.int (xs1 + xs0), .retAddr fs2, .int xs3, .ref rs4] h := ev_s rfl rfl rfl rfl
set_option maxRecDepth 50000 in
theorem s_Law_law_794 {F : jx_F} {lv : Nat} {h : jx_H} {f0 : Nat} {r1 : Nat} {r2 : Nat} {x3 : Int32} {xs0 : Int32} {fs1 : Nat} {xs2 : Int32} {rs3 : Nat} : ev F lv jm_Law_law 794 [.retAddr f0, .ref r1, .ref r2, .int x3] [.int xs0, .retAddr fs1, .int xs2, .ref rs3] h = jx_gi F.1 0 fs1 xs0 fun v => ev F lv jm_Law_law 795 [.retAddr f0, .ref r1, .ref r2, .int x3] [.int v, .int xs2, .ref rs3] h := ev_gi rfl rfl rfl rfl
set_option maxRecDepth 50000 in
theorem s_Law_law_795 {F : jx_F} {lv : Nat} {h : jx_H} {f0 : Nat} {r1 : Nat} {r2 : Nat} {x3 : Int32} {xs0 : Int32} {xs1 : Int32} {rs2 : Nat} : ev F lv jm_Law_law 795 [.retAddr f0, .ref r1, .ref r2, .int x3] [.int xs0, .int xs1, .ref rs2] h = ev F lv jm_Law_law 796 [.retAddr f0, .ref r1, .ref r2, .int x3] [.retAddr f0, .int xs0, .int xs1, .ref rs2] h := ev_s rfl rfl rfl rfl
set_option maxRecDepth 50000 in
theorem s_Law_law_796 {F : jx_F} {lv : Nat} {h : jx_H} {f0 : Nat} {r1 : Nat} {r2 : Nat} {x3 : Int32} {fs0 : Nat} {xs1 : Int32} {xs2 : Int32} {rs3 : Nat} : ev F lv jm_Law_law 796 [.retAddr f0, .ref r1, .ref r2, .int x3] [.retAddr fs0, .int xs1, .int xs2, .ref rs3] h = ev F lv jm_Law_law 797 [.retAddr f0, .ref r1, .ref r2, .int x3] [.int x3, .retAddr fs0, .int xs1, .int xs2, .ref rs3] h := ev_s rfl rfl rfl rfl
set_option maxRecDepth 50000 in
theorem s_Law_law_797 {F : jx_F} {lv : Nat} {h : jx_H} {f0 : Nat} {r1 : Nat} {r2 : Nat} {x3 : Int32} {xs0 : Int32} {fs1 : Nat} {xs2 : Int32} {xs3 : Int32} {rs4 : Nat} : ev F lv jm_Law_law 797 [.retAddr f0, .ref r1, .ref r2, .int x3] [.int xs0, .retAddr fs1, .int xs2, .int xs3, .ref rs4] h = ev F lv jm_Law_law 798 [.retAddr f0, .ref r1, .ref r2, .int x3] [.int 3, .int xs0, .retAddr fs1, .int xs2, .int xs3, .ref rs4] h := ev_s rfl rfl rfl rfl
set_option maxRecDepth 50000 in
theorem s_Law_law_798 {F : jx_F} {lv : Nat} {h : jx_H} {f0 : Nat} {r1 : Nat} {r2 : Nat} {x3 : Int32} {xs0 : Int32} {xs1 : Int32} {fs2 : Nat} {xs3 : Int32} {xs4 : Int32} {rs5 : Nat} : ev F lv jm_Law_law 798 [.retAddr f0, .ref r1, .ref r2, .int x3] [.int xs0, .int xs1, .retAddr fs2, .int xs3, .int xs4, .ref rs5] h = ev F lv jm_Law_law 799 [.retAddr f0, .ref r1, .ref r2, .int x3] [.int (xs1 + xs0), .retAddr fs2, .int xs3, .int xs4, .ref rs5] h := ev_s rfl rfl rfl rfl
set_option maxRecDepth 50000 in
theorem s_Law_law_799 {F : jx_F} {lv : Nat} {h : jx_H} {f0 : Nat} {r1 : Nat} {r2 : Nat} {x3 : Int32} {xs0 : Int32} {fs1 : Nat} {xs2 : Int32} {xs3 : Int32} {rs4 : Nat} : ev F lv jm_Law_law 799 [.retAddr f0, .ref r1, .ref r2, .int x3] [.int xs0, .retAddr fs1, .int xs2, .int xs3, .ref rs4] h = jx_gi F.1 0 fs1 xs0 fun v => ev F lv jm_Law_law 800 [.retAddr f0, .ref r1, .ref r2, .int x3] [.int v, .int xs2, .int xs3, .ref rs4] h := ev_gi rfl rfl rfl rfl
set_option maxRecDepth 50000 in
theorem s_Law_law_800 {F : jx_F} {lv : Nat} {h : jx_H} {f0 : Nat} {r1 : Nat} {r2 : Nat} {x3 : Int32} {xs0 : Int32} {xs1 : Int32} {xs2 : Int32} {rs3 : Nat} : ev F lv jm_Law_law 800 [.retAddr f0, .ref r1, .ref r2, .int x3] [.int xs0, .int xs1, .int xs2, .ref rs3] h = ev F lv jm_Law_law 801 [.retAddr f0, .ref r1, .ref r2, .int x3] [.retAddr f0, .int xs0, .int xs1, .int xs2, .ref rs3] h := ev_s rfl rfl rfl rfl
set_option maxRecDepth 50000 in
theorem s_Law_law_801 {F : jx_F} {lv : Nat} {h : jx_H} {f0 : Nat} {r1 : Nat} {r2 : Nat} {x3 : Int32} {fs0 : Nat} {xs1 : Int32} {xs2 : Int32} {xs3 : Int32} {rs4 : Nat} : ev F lv jm_Law_law 801 [.retAddr f0, .ref r1, .ref r2, .int x3] [.retAddr fs0, .int xs1, .int xs2, .int xs3, .ref rs4] h = ev F lv jm_Law_law 802 [.retAddr f0, .ref r1, .ref r2, .int x3] [.int x3, .retAddr fs0, .int xs1, .int xs2, .int xs3, .ref rs4] h := ev_s rfl rfl rfl rfl
set_option maxRecDepth 50000 in
theorem s_Law_law_802 {F : jx_F} {lv : Nat} {h : jx_H} {f0 : Nat} {r1 : Nat} {r2 : Nat} {x3 : Int32} {xs0 : Int32} {fs1 : Nat} {xs2 : Int32} {xs3 : Int32} {xs4 : Int32} {rs5 : Nat} : ev F lv jm_Law_law 802 [.retAddr f0, .ref r1, .ref r2, .int x3] [.int xs0, .retAddr fs1, .int xs2, .int xs3, .int xs4, .ref rs5] h = ev F lv jm_Law_law 803 [.retAddr f0, .ref r1, .ref r2, .int x3] [.int 4, .int xs0, .retAddr fs1, .int xs2, .int xs3, .int xs4, .ref rs5] h := ev_s rfl rfl rfl rfl
set_option maxRecDepth 50000 in
theorem s_Law_law_803 {F : jx_F} {lv : Nat} {h : jx_H} {f0 : Nat} {r1 : Nat} {r2 : Nat} {x3 : Int32} {xs0 : Int32} {xs1 : Int32} {fs2 : Nat} {xs3 : Int32} {xs4 : Int32} {xs5 : Int32} {rs6 : Nat} : ev F lv jm_Law_law 803 [.retAddr f0, .ref r1, .ref r2, .int x3] [.int xs0, .int xs1, .retAddr fs2, .int xs3, .int xs4, .int xs5, .ref rs6] h = ev F lv jm_Law_law 804 [.retAddr f0, .ref r1, .ref r2, .int x3] [.int (xs1 + xs0), .retAddr fs2, .int xs3, .int xs4, .int xs5, .ref rs6] h := ev_s rfl rfl rfl rfl
set_option maxRecDepth 50000 in
theorem s_Law_law_804 {F : jx_F} {lv : Nat} {h : jx_H} {f0 : Nat} {r1 : Nat} {r2 : Nat} {x3 : Int32} {xs0 : Int32} {fs1 : Nat} {xs2 : Int32} {xs3 : Int32} {xs4 : Int32} {rs5 : Nat} : ev F lv jm_Law_law 804 [.retAddr f0, .ref r1, .ref r2, .int x3] [.int xs0, .retAddr fs1, .int xs2, .int xs3, .int xs4, .ref rs5] h = jx_gi F.1 0 fs1 xs0 fun v => ev F lv jm_Law_law 805 [.retAddr f0, .ref r1, .ref r2, .int x3] [.int v, .int xs2, .int xs3, .int xs4, .ref rs5] h := ev_gi rfl rfl rfl rfl
set_option maxRecDepth 50000 in
theorem s_Law_law_805 {F : jx_F} {lv : Nat} {h : jx_H} {f0 : Nat} {r1 : Nat} {r2 : Nat} {x3 : Int32} {xs0 : Int32} {xs1 : Int32} {xs2 : Int32} {xs3 : Int32} {rs4 : Nat} (hr : jx_rcv F h 5 [.ref rs4, .int xs3, .int xs2, .int xs1, .int xs0] = true) : ev F (lv + 1) jm_Law_law 805 [.retAddr f0, .ref r1, .ref r2, .int x3] [.int xs0, .int xs1, .int xs2, .int xs3, .ref rs4] h = (rn F lv 87 [.ref rs4, .int xs3, .int xs2, .int xs1, .int xs0] h).bind fun q => ev F (lv + 1) jm_Law_law 808 [.retAddr f0, .ref r1, .ref r2, .int x3] (q.1.toList ++ []) q.2 := ev_cR rfl rfl rfl hr
set_option maxRecDepth 50000 in
theorem s_Law_law_808 {F : jx_F} {lv : Nat} {h : jx_H} {f0 : Nat} {r1 : Nat} {r2 : Nat} {x3 : Int32} {xs0 : Int32} : ev F lv jm_Law_law 808 [.retAddr f0, .ref r1, .ref r2, .int x3] [.int xs0] h = ev F lv jm_Law_law 809 [.retAddr f0, .ref r1, .ref r2, .int x3] [.ref r2, .int xs0] h := ev_s rfl rfl rfl rfl
set_option maxRecDepth 50000 in
theorem s_Law_law_809 {F : jx_F} {lv : Nat} {h : jx_H} {f0 : Nat} {r1 : Nat} {r2 : Nat} {x3 : Int32} {rs0 : Nat} {xs1 : Int32} : ev F lv jm_Law_law 809 [.retAddr f0, .ref r1, .ref r2, .int x3] [.ref rs0, .int xs1] h = ev F lv jm_Law_law 810 [.retAddr f0, .ref r1, .ref r2, .int x3] [.retAddr f0, .ref rs0, .int xs1] h := ev_s rfl rfl rfl rfl
set_option maxRecDepth 50000 in
theorem s_Law_law_810 {F : jx_F} {lv : Nat} {h : jx_H} {f0 : Nat} {r1 : Nat} {r2 : Nat} {x3 : Int32} {fs0 : Nat} {rs1 : Nat} {xs2 : Int32} : ev F lv jm_Law_law 810 [.retAddr f0, .ref r1, .ref r2, .int x3] [.retAddr fs0, .ref rs1, .int xs2] h = ev F lv jm_Law_law 811 [.retAddr f0, .ref r1, .ref r2, .int x3] [.int x3, .retAddr fs0, .ref rs1, .int xs2] h := ev_s rfl rfl rfl rfl
set_option maxRecDepth 50000 in
theorem s_Law_law_811 {F : jx_F} {lv : Nat} {h : jx_H} {f0 : Nat} {r1 : Nat} {r2 : Nat} {x3 : Int32} {xs0 : Int32} {fs1 : Nat} {rs2 : Nat} {xs3 : Int32} : ev F lv jm_Law_law 811 [.retAddr f0, .ref r1, .ref r2, .int x3] [.int xs0, .retAddr fs1, .ref rs2, .int xs3] h = ev F lv jm_Law_law 812 [.retAddr f0, .ref r1, .ref r2, .int x3] [.int 1, .int xs0, .retAddr fs1, .ref rs2, .int xs3] h := ev_s rfl rfl rfl rfl
set_option maxRecDepth 50000 in
theorem s_Law_law_812 {F : jx_F} {lv : Nat} {h : jx_H} {f0 : Nat} {r1 : Nat} {r2 : Nat} {x3 : Int32} {xs0 : Int32} {xs1 : Int32} {fs2 : Nat} {rs3 : Nat} {xs4 : Int32} : ev F lv jm_Law_law 812 [.retAddr f0, .ref r1, .ref r2, .int x3] [.int xs0, .int xs1, .retAddr fs2, .ref rs3, .int xs4] h = ev F lv jm_Law_law 813 [.retAddr f0, .ref r1, .ref r2, .int x3] [.int (xs1 + xs0), .retAddr fs2, .ref rs3, .int xs4] h := ev_s rfl rfl rfl rfl
set_option maxRecDepth 50000 in
theorem s_Law_law_813 {F : jx_F} {lv : Nat} {h : jx_H} {f0 : Nat} {r1 : Nat} {r2 : Nat} {x3 : Int32} {xs0 : Int32} {fs1 : Nat} {rs2 : Nat} {xs3 : Int32} : ev F lv jm_Law_law 813 [.retAddr f0, .ref r1, .ref r2, .int x3] [.int xs0, .retAddr fs1, .ref rs2, .int xs3] h = jx_gi F.1 0 fs1 xs0 fun v => ev F lv jm_Law_law 814 [.retAddr f0, .ref r1, .ref r2, .int x3] [.int v, .ref rs2, .int xs3] h := ev_gi rfl rfl rfl rfl
set_option maxRecDepth 50000 in
theorem s_Law_law_814 {F : jx_F} {lv : Nat} {h : jx_H} {f0 : Nat} {r1 : Nat} {r2 : Nat} {x3 : Int32} {xs0 : Int32} {rs1 : Nat} {xs2 : Int32} : ev F lv jm_Law_law 814 [.retAddr f0, .ref r1, .ref r2, .int x3] [.int xs0, .ref rs1, .int xs2] h = ev F lv jm_Law_law 815 [.retAddr f0, .ref r1, .ref r2, .int x3] [.retAddr f0, .int xs0, .ref rs1, .int xs2] h := ev_s rfl rfl rfl rfl
set_option maxRecDepth 50000 in
theorem s_Law_law_815 {F : jx_F} {lv : Nat} {h : jx_H} {f0 : Nat} {r1 : Nat} {r2 : Nat} {x3 : Int32} {fs0 : Nat} {xs1 : Int32} {rs2 : Nat} {xs3 : Int32} : ev F lv jm_Law_law 815 [.retAddr f0, .ref r1, .ref r2, .int x3] [.retAddr fs0, .int xs1, .ref rs2, .int xs3] h = ev F lv jm_Law_law 816 [.retAddr f0, .ref r1, .ref r2, .int x3] [.int x3, .retAddr fs0, .int xs1, .ref rs2, .int xs3] h := ev_s rfl rfl rfl rfl
set_option maxRecDepth 50000 in
theorem s_Law_law_816 {F : jx_F} {lv : Nat} {h : jx_H} {f0 : Nat} {r1 : Nat} {r2 : Nat} {x3 : Int32} {xs0 : Int32} {fs1 : Nat} {xs2 : Int32} {rs3 : Nat} {xs4 : Int32} : ev F lv jm_Law_law 816 [.retAddr f0, .ref r1, .ref r2, .int x3] [.int xs0, .retAddr fs1, .int xs2, .ref rs3, .int xs4] h = ev F lv jm_Law_law 817 [.retAddr f0, .ref r1, .ref r2, .int x3] [.int 2, .int xs0, .retAddr fs1, .int xs2, .ref rs3, .int xs4] h := ev_s rfl rfl rfl rfl
set_option maxRecDepth 50000 in
theorem s_Law_law_817 {F : jx_F} {lv : Nat} {h : jx_H} {f0 : Nat} {r1 : Nat} {r2 : Nat} {x3 : Int32} {xs0 : Int32} {xs1 : Int32} {fs2 : Nat} {xs3 : Int32} {rs4 : Nat} {xs5 : Int32} : ev F lv jm_Law_law 817 [.retAddr f0, .ref r1, .ref r2, .int x3] [.int xs0, .int xs1, .retAddr fs2, .int xs3, .ref rs4, .int xs5] h = ev F lv jm_Law_law 818 [.retAddr f0, .ref r1, .ref r2, .int x3] [.int (xs1 + xs0), .retAddr fs2, .int xs3, .ref rs4, .int xs5] h := ev_s rfl rfl rfl rfl
set_option maxRecDepth 50000 in
theorem s_Law_law_818 {F : jx_F} {lv : Nat} {h : jx_H} {f0 : Nat} {r1 : Nat} {r2 : Nat} {x3 : Int32} {xs0 : Int32} {fs1 : Nat} {xs2 : Int32} {rs3 : Nat} {xs4 : Int32} : ev F lv jm_Law_law 818 [.retAddr f0, .ref r1, .ref r2, .int x3] [.int xs0, .retAddr fs1, .int xs2, .ref rs3, .int xs4] h = jx_gi F.1 0 fs1 xs0 fun v => ev F lv jm_Law_law 819 [.retAddr f0, .ref r1, .ref r2, .int x3] [.int v, .int xs2, .ref rs3, .int xs4] h := ev_gi rfl rfl rfl rfl
set_option maxRecDepth 50000 in
theorem s_Law_law_819 {F : jx_F} {lv : Nat} {h : jx_H} {f0 : Nat} {r1 : Nat} {r2 : Nat} {x3 : Int32} {xs0 : Int32} {xs1 : Int32} {rs2 : Nat} {xs3 : Int32} : ev F lv jm_Law_law 819 [.retAddr f0, .ref r1, .ref r2, .int x3] [.int xs0, .int xs1, .ref rs2, .int xs3] h = ev F lv jm_Law_law 820 [.retAddr f0, .ref r1, .ref r2, .int x3] [.retAddr f0, .int xs0, .int xs1, .ref rs2, .int xs3] h := ev_s rfl rfl rfl rfl
set_option maxRecDepth 50000 in
theorem s_Law_law_820 {F : jx_F} {lv : Nat} {h : jx_H} {f0 : Nat} {r1 : Nat} {r2 : Nat} {x3 : Int32} {fs0 : Nat} {xs1 : Int32} {xs2 : Int32} {rs3 : Nat} {xs4 : Int32} : ev F lv jm_Law_law 820 [.retAddr f0, .ref r1, .ref r2, .int x3] [.retAddr fs0, .int xs1, .int xs2, .ref rs3, .int xs4] h = ev F lv jm_Law_law 821 [.retAddr f0, .ref r1, .ref r2, .int x3] [.int x3, .retAddr fs0, .int xs1, .int xs2, .ref rs3, .int xs4] h := ev_s rfl rfl rfl rfl
set_option maxRecDepth 50000 in
theorem s_Law_law_821 {F : jx_F} {lv : Nat} {h : jx_H} {f0 : Nat} {r1 : Nat} {r2 : Nat} {x3 : Int32} {xs0 : Int32} {fs1 : Nat} {xs2 : Int32} {xs3 : Int32} {rs4 : Nat} {xs5 : Int32} : ev F lv jm_Law_law 821 [.retAddr f0, .ref r1, .ref r2, .int x3] [.int xs0, .retAddr fs1, .int xs2, .int xs3, .ref rs4, .int xs5] h = ev F lv jm_Law_law 822 [.retAddr f0, .ref r1, .ref r2, .int x3] [.int 3, .int xs0, .retAddr fs1, .int xs2, .int xs3, .ref rs4, .int xs5] h := ev_s rfl rfl rfl rfl
set_option maxRecDepth 50000 in
theorem s_Law_law_822 {F : jx_F} {lv : Nat} {h : jx_H} {f0 : Nat} {r1 : Nat} {r2 : Nat} {x3 : Int32} {xs0 : Int32} {xs1 : Int32} {fs2 : Nat} {xs3 : Int32} {xs4 : Int32} {rs5 : Nat} {xs6 : Int32} : ev F lv jm_Law_law 822 [.retAddr f0, .ref r1, .ref r2, .int x3] [.int xs0, .int xs1, .retAddr fs2, .int xs3, .int xs4, .ref rs5, .int xs6] h = ev F lv jm_Law_law 823 [.retAddr f0, .ref r1, .ref r2, .int x3] [.int (xs1 + xs0), .retAddr fs2, .int xs3, .int xs4, .ref rs5, .int xs6] h := ev_s rfl rfl rfl rfl
set_option maxRecDepth 50000 in
theorem s_Law_law_823 {F : jx_F} {lv : Nat} {h : jx_H} {f0 : Nat} {r1 : Nat} {r2 : Nat} {x3 : Int32} {xs0 : Int32} {fs1 : Nat} {xs2 : Int32} {xs3 : Int32} {rs4 : Nat} {xs5 : Int32} : ev F lv jm_Law_law 823 [.retAddr f0, .ref r1, .ref r2, .int x3] [.int xs0, .retAddr fs1, .int xs2, .int xs3, .ref rs4, .int xs5] h = jx_gi F.1 0 fs1 xs0 fun v => ev F lv jm_Law_law 824 [.retAddr f0, .ref r1, .ref r2, .int x3] [.int v, .int xs2, .int xs3, .ref rs4, .int xs5] h := ev_gi rfl rfl rfl rfl
set_option maxRecDepth 50000 in
theorem s_Law_law_824 {F : jx_F} {lv : Nat} {h : jx_H} {f0 : Nat} {r1 : Nat} {r2 : Nat} {x3 : Int32} {xs0 : Int32} {xs1 : Int32} {xs2 : Int32} {rs3 : Nat} {xs4 : Int32} : ev F lv jm_Law_law 824 [.retAddr f0, .ref r1, .ref r2, .int x3] [.int xs0, .int xs1, .int xs2, .ref rs3, .int xs4] h = ev F lv jm_Law_law 825 [.retAddr f0, .ref r1, .ref r2, .int x3] [.retAddr f0, .int xs0, .int xs1, .int xs2, .ref rs3, .int xs4] h := ev_s rfl rfl rfl rfl
set_option maxRecDepth 50000 in
theorem s_Law_law_825 {F : jx_F} {lv : Nat} {h : jx_H} {f0 : Nat} {r1 : Nat} {r2 : Nat} {x3 : Int32} {fs0 : Nat} {xs1 : Int32} {xs2 : Int32} {xs3 : Int32} {rs4 : Nat} {xs5 : Int32} : ev F lv jm_Law_law 825 [.retAddr f0, .ref r1, .ref r2, .int x3] [.retAddr fs0, .int xs1, .int xs2, .int xs3, .ref rs4, .int xs5] h = ev F lv jm_Law_law 826 [.retAddr f0, .ref r1, .ref r2, .int x3] [.int x3, .retAddr fs0, .int xs1, .int xs2, .int xs3, .ref rs4, .int xs5] h := ev_s rfl rfl rfl rfl
set_option maxRecDepth 50000 in
theorem s_Law_law_826 {F : jx_F} {lv : Nat} {h : jx_H} {f0 : Nat} {r1 : Nat} {r2 : Nat} {x3 : Int32} {xs0 : Int32} {fs1 : Nat} {xs2 : Int32} {xs3 : Int32} {xs4 : Int32} {rs5 : Nat} {xs6 : Int32} : ev F lv jm_Law_law 826 [.retAddr f0, .ref r1, .ref r2, .int x3] [.int xs0, .retAddr fs1, .int xs2, .int xs3, .int xs4, .ref rs5, .int xs6] h = ev F lv jm_Law_law 827 [.retAddr f0, .ref r1, .ref r2, .int x3] [.int 4, .int xs0, .retAddr fs1, .int xs2, .int xs3, .int xs4, .ref rs5, .int xs6] h := ev_s rfl rfl rfl rfl
set_option maxRecDepth 50000 in
theorem s_Law_law_827 {F : jx_F} {lv : Nat} {h : jx_H} {f0 : Nat} {r1 : Nat} {r2 : Nat} {x3 : Int32} {xs0 : Int32} {xs1 : Int32} {fs2 : Nat} {xs3 : Int32} {xs4 : Int32} {xs5 : Int32} {rs6 : Nat} {xs7 : Int32} : ev F lv jm_Law_law 827 [.retAddr f0, .ref r1, .ref r2, .int x3] [.int xs0, .int xs1, .retAddr fs2, .int xs3, .int xs4, .int xs5, .ref rs6, .int xs7] h = ev F lv jm_Law_law 828 [.retAddr f0, .ref r1, .ref r2, .int x3] [.int (xs1 + xs0), .retAddr fs2, .int xs3, .int xs4, .int xs5, .ref rs6, .int xs7] h := ev_s rfl rfl rfl rfl
set_option maxRecDepth 50000 in
theorem s_Law_law_828 {F : jx_F} {lv : Nat} {h : jx_H} {f0 : Nat} {r1 : Nat} {r2 : Nat} {x3 : Int32} {xs0 : Int32} {fs1 : Nat} {xs2 : Int32} {xs3 : Int32} {xs4 : Int32} {rs5 : Nat} {xs6 : Int32} : ev F lv jm_Law_law 828 [.retAddr f0, .ref r1, .ref r2, .int x3] [.int xs0, .retAddr fs1, .int xs2, .int xs3, .int xs4, .ref rs5, .int xs6] h = jx_gi F.1 0 fs1 xs0 fun v => ev F lv jm_Law_law 829 [.retAddr f0, .ref r1, .ref r2, .int x3] [.int v, .int xs2, .int xs3, .int xs4, .ref rs5, .int xs6] h := ev_gi rfl rfl rfl rfl
set_option maxRecDepth 50000 in
theorem s_Law_law_829 {F : jx_F} {lv : Nat} {h : jx_H} {f0 : Nat} {r1 : Nat} {r2 : Nat} {x3 : Int32} {xs0 : Int32} {xs1 : Int32} {xs2 : Int32} {xs3 : Int32} {rs4 : Nat} {xs5 : Int32} (hr : jx_rcv F h 6 [.ref rs4, .int xs3, .int xs2, .int xs1, .int xs0] = true) : ev F (lv + 1) jm_Law_law 829 [.retAddr f0, .ref r1, .ref r2, .int x3] [.int xs0, .int xs1, .int xs2, .int xs3, .ref rs4, .int xs5] h = (rn F lv 164 [.ref rs4, .int xs3, .int xs2, .int xs1, .int xs0] h).bind fun q => ev F (lv + 1) jm_Law_law 832 [.retAddr f0, .ref r1, .ref r2, .int x3] (q.1.toList ++ [.int xs5]) q.2 := ev_cR rfl rfl rfl hr
set_option maxRecDepth 50000 in
theorem s_Law_law_832 {F : jx_F} {lv : Nat} {h : jx_H} {f0 : Nat} {r1 : Nat} {r2 : Nat} {x3 : Int32} {xs0 : Int32} {xs1 : Int32} : ev F lv jm_Law_law 832 [.retAddr f0, .ref r1, .ref r2, .int x3] [.int xs0, .int xs1] h = if xs1 = xs0 then ev F lv jm_Law_law 1045 [.retAddr f0, .ref r1, .ref r2, .int x3] [] h else ev F lv jm_Law_law 835 [.retAddr f0, .ref r1, .ref r2, .int x3] [] h := ev_b (off := 213) (b := jx_cmpB .eq xs1 xs0) rfl rfl rfl rfl rfl (by decide)
set_option maxRecDepth 50000 in
theorem s_Law_law_835 {F : jx_F} {lv : Nat} {h : jx_H} {f0 : Nat} {r1 : Nat} {r2 : Nat} {x3 : Int32} : ev F lv jm_Law_law 835 [.retAddr f0, .ref r1, .ref r2, .int x3] [] h = ev F lv jm_Law_law 836 [.retAddr f0, .ref r1, .ref r2, .int x3] [.int 0] h := ev_s rfl rfl rfl rfl
set_option maxRecDepth 50000 in
theorem s_Law_law_836 {F : jx_F} {lv : Nat} {h : jx_H} {f0 : Nat} {r1 : Nat} {r2 : Nat} {x3 : Int32} {xs0 : Int32} (hb : jx_ret1 4 xs0 = true) : ev F lv jm_Law_law 836 [.retAddr f0, .ref r1, .ref r2, .int x3] [.int xs0] h = some (some (.int xs0), h) := ev_rB rfl rfl hb
set_option maxRecDepth 50000 in
theorem s_Law_law_837 {F : jx_F} {lv : Nat} {h : jx_H} {f0 : Nat} {r1 : Nat} {r2 : Nat} {x3 : Int32} : ev F lv jm_Law_law 837 [.retAddr f0, .ref r1, .ref r2, .int x3] [] h = ev F lv jm_Law_law 838 [.retAddr f0, .ref r1, .ref r2, .int x3] [.ref r1] h := ev_s rfl rfl rfl rfl
set_option maxRecDepth 50000 in
theorem s_Law_law_838 {F : jx_F} {lv : Nat} {h : jx_H} {f0 : Nat} {r1 : Nat} {r2 : Nat} {x3 : Int32} {rs0 : Nat} : ev F lv jm_Law_law 838 [.retAddr f0, .ref r1, .ref r2, .int x3] [.ref rs0] h = ev F lv jm_Law_law 839 [.retAddr f0, .ref r1, .ref r2, .int x3] [.retAddr f0, .ref rs0] h := ev_s rfl rfl rfl rfl
set_option maxRecDepth 50000 in
theorem s_Law_law_839 {F : jx_F} {lv : Nat} {h : jx_H} {f0 : Nat} {r1 : Nat} {r2 : Nat} {x3 : Int32} {fs0 : Nat} {rs1 : Nat} : ev F lv jm_Law_law 839 [.retAddr f0, .ref r1, .ref r2, .int x3] [.retAddr fs0, .ref rs1] h = ev F lv jm_Law_law 840 [.retAddr f0, .ref r1, .ref r2, .int x3] [.int x3, .retAddr fs0, .ref rs1] h := ev_s rfl rfl rfl rfl
set_option maxRecDepth 50000 in
theorem s_Law_law_840 {F : jx_F} {lv : Nat} {h : jx_H} {f0 : Nat} {r1 : Nat} {r2 : Nat} {x3 : Int32} {xs0 : Int32} {fs1 : Nat} {rs2 : Nat} : ev F lv jm_Law_law 840 [.retAddr f0, .ref r1, .ref r2, .int x3] [.int xs0, .retAddr fs1, .ref rs2] h = ev F lv jm_Law_law 841 [.retAddr f0, .ref r1, .ref r2, .int x3] [.int 1, .int xs0, .retAddr fs1, .ref rs2] h := ev_s rfl rfl rfl rfl
set_option maxRecDepth 50000 in
theorem s_Law_law_841 {F : jx_F} {lv : Nat} {h : jx_H} {f0 : Nat} {r1 : Nat} {r2 : Nat} {x3 : Int32} {xs0 : Int32} {xs1 : Int32} {fs2 : Nat} {rs3 : Nat} : ev F lv jm_Law_law 841 [.retAddr f0, .ref r1, .ref r2, .int x3] [.int xs0, .int xs1, .retAddr fs2, .ref rs3] h = ev F lv jm_Law_law 842 [.retAddr f0, .ref r1, .ref r2, .int x3] [.int (xs1 + xs0), .retAddr fs2, .ref rs3] h := ev_s rfl rfl rfl rfl
set_option maxRecDepth 50000 in
theorem s_Law_law_842 {F : jx_F} {lv : Nat} {h : jx_H} {f0 : Nat} {r1 : Nat} {r2 : Nat} {x3 : Int32} {xs0 : Int32} {fs1 : Nat} {rs2 : Nat} : ev F lv jm_Law_law 842 [.retAddr f0, .ref r1, .ref r2, .int x3] [.int xs0, .retAddr fs1, .ref rs2] h = jx_gi F.1 0 fs1 xs0 fun v => ev F lv jm_Law_law 843 [.retAddr f0, .ref r1, .ref r2, .int x3] [.int v, .ref rs2] h := ev_gi rfl rfl rfl rfl
set_option maxRecDepth 50000 in
theorem s_Law_law_843 {F : jx_F} {lv : Nat} {h : jx_H} {f0 : Nat} {r1 : Nat} {r2 : Nat} {x3 : Int32} {xs0 : Int32} {rs1 : Nat} : ev F lv jm_Law_law 843 [.retAddr f0, .ref r1, .ref r2, .int x3] [.int xs0, .ref rs1] h = ev F lv jm_Law_law 844 [.retAddr f0, .ref r1, .ref r2, .int x3] [.retAddr f0, .int xs0, .ref rs1] h := ev_s rfl rfl rfl rfl
set_option maxRecDepth 50000 in
theorem s_Law_law_844 {F : jx_F} {lv : Nat} {h : jx_H} {f0 : Nat} {r1 : Nat} {r2 : Nat} {x3 : Int32} {fs0 : Nat} {xs1 : Int32} {rs2 : Nat} : ev F lv jm_Law_law 844 [.retAddr f0, .ref r1, .ref r2, .int x3] [.retAddr fs0, .int xs1, .ref rs2] h = ev F lv jm_Law_law 845 [.retAddr f0, .ref r1, .ref r2, .int x3] [.int x3, .retAddr fs0, .int xs1, .ref rs2] h := ev_s rfl rfl rfl rfl
set_option maxRecDepth 50000 in
theorem s_Law_law_845 {F : jx_F} {lv : Nat} {h : jx_H} {f0 : Nat} {r1 : Nat} {r2 : Nat} {x3 : Int32} {xs0 : Int32} {fs1 : Nat} {xs2 : Int32} {rs3 : Nat} : ev F lv jm_Law_law 845 [.retAddr f0, .ref r1, .ref r2, .int x3] [.int xs0, .retAddr fs1, .int xs2, .ref rs3] h = ev F lv jm_Law_law 846 [.retAddr f0, .ref r1, .ref r2, .int x3] [.int 2, .int xs0, .retAddr fs1, .int xs2, .ref rs3] h := ev_s rfl rfl rfl rfl
set_option maxRecDepth 50000 in
theorem s_Law_law_846 {F : jx_F} {lv : Nat} {h : jx_H} {f0 : Nat} {r1 : Nat} {r2 : Nat} {x3 : Int32} {xs0 : Int32} {xs1 : Int32} {fs2 : Nat} {xs3 : Int32} {rs4 : Nat} : ev F lv jm_Law_law 846 [.retAddr f0, .ref r1, .ref r2, .int x3] [.int xs0, .int xs1, .retAddr fs2, .int xs3, .ref rs4] h = ev F lv jm_Law_law 847 [.retAddr f0, .ref r1, .ref r2, .int x3] [.int (xs1 + xs0), .retAddr fs2, .int xs3, .ref rs4] h := ev_s rfl rfl rfl rfl
set_option maxRecDepth 50000 in
theorem s_Law_law_847 {F : jx_F} {lv : Nat} {h : jx_H} {f0 : Nat} {r1 : Nat} {r2 : Nat} {x3 : Int32} {xs0 : Int32} {fs1 : Nat} {xs2 : Int32} {rs3 : Nat} : ev F lv jm_Law_law 847 [.retAddr f0, .ref r1, .ref r2, .int x3] [.int xs0, .retAddr fs1, .int xs2, .ref rs3] h = jx_gi F.1 0 fs1 xs0 fun v => ev F lv jm_Law_law 848 [.retAddr f0, .ref r1, .ref r2, .int x3] [.int v, .int xs2, .ref rs3] h := ev_gi rfl rfl rfl rfl
set_option maxRecDepth 50000 in
theorem s_Law_law_848 {F : jx_F} {lv : Nat} {h : jx_H} {f0 : Nat} {r1 : Nat} {r2 : Nat} {x3 : Int32} {xs0 : Int32} {xs1 : Int32} {rs2 : Nat} : ev F lv jm_Law_law 848 [.retAddr f0, .ref r1, .ref r2, .int x3] [.int xs0, .int xs1, .ref rs2] h = ev F lv jm_Law_law 849 [.retAddr f0, .ref r1, .ref r2, .int x3] [.retAddr f0, .int xs0, .int xs1, .ref rs2] h := ev_s rfl rfl rfl rfl
set_option maxRecDepth 50000 in
theorem s_Law_law_849 {F : jx_F} {lv : Nat} {h : jx_H} {f0 : Nat} {r1 : Nat} {r2 : Nat} {x3 : Int32} {fs0 : Nat} {xs1 : Int32} {xs2 : Int32} {rs3 : Nat} : ev F lv jm_Law_law 849 [.retAddr f0, .ref r1, .ref r2, .int x3] [.retAddr fs0, .int xs1, .int xs2, .ref rs3] h = ev F lv jm_Law_law 850 [.retAddr f0, .ref r1, .ref r2, .int x3] [.int x3, .retAddr fs0, .int xs1, .int xs2, .ref rs3] h := ev_s rfl rfl rfl rfl
set_option maxRecDepth 50000 in
theorem s_Law_law_850 {F : jx_F} {lv : Nat} {h : jx_H} {f0 : Nat} {r1 : Nat} {r2 : Nat} {x3 : Int32} {xs0 : Int32} {fs1 : Nat} {xs2 : Int32} {xs3 : Int32} {rs4 : Nat} : ev F lv jm_Law_law 850 [.retAddr f0, .ref r1, .ref r2, .int x3] [.int xs0, .retAddr fs1, .int xs2, .int xs3, .ref rs4] h = ev F lv jm_Law_law 851 [.retAddr f0, .ref r1, .ref r2, .int x3] [.int 3, .int xs0, .retAddr fs1, .int xs2, .int xs3, .ref rs4] h := ev_s rfl rfl rfl rfl
set_option maxRecDepth 50000 in
theorem s_Law_law_851 {F : jx_F} {lv : Nat} {h : jx_H} {f0 : Nat} {r1 : Nat} {r2 : Nat} {x3 : Int32} {xs0 : Int32} {xs1 : Int32} {fs2 : Nat} {xs3 : Int32} {xs4 : Int32} {rs5 : Nat} : ev F lv jm_Law_law 851 [.retAddr f0, .ref r1, .ref r2, .int x3] [.int xs0, .int xs1, .retAddr fs2, .int xs3, .int xs4, .ref rs5] h = ev F lv jm_Law_law 852 [.retAddr f0, .ref r1, .ref r2, .int x3] [.int (xs1 + xs0), .retAddr fs2, .int xs3, .int xs4, .ref rs5] h := ev_s rfl rfl rfl rfl
set_option maxRecDepth 50000 in
theorem s_Law_law_852 {F : jx_F} {lv : Nat} {h : jx_H} {f0 : Nat} {r1 : Nat} {r2 : Nat} {x3 : Int32} {xs0 : Int32} {fs1 : Nat} {xs2 : Int32} {xs3 : Int32} {rs4 : Nat} : ev F lv jm_Law_law 852 [.retAddr f0, .ref r1, .ref r2, .int x3] [.int xs0, .retAddr fs1, .int xs2, .int xs3, .ref rs4] h = jx_gi F.1 0 fs1 xs0 fun v => ev F lv jm_Law_law 853 [.retAddr f0, .ref r1, .ref r2, .int x3] [.int v, .int xs2, .int xs3, .ref rs4] h := ev_gi rfl rfl rfl rfl
set_option maxRecDepth 50000 in
theorem s_Law_law_853 {F : jx_F} {lv : Nat} {h : jx_H} {f0 : Nat} {r1 : Nat} {r2 : Nat} {x3 : Int32} {xs0 : Int32} {xs1 : Int32} {xs2 : Int32} {rs3 : Nat} (hr : jx_rcv F h 5 [.ref rs3, .int xs2, .int xs1, .int xs0] = true) : ev F (lv + 1) jm_Law_law 853 [.retAddr f0, .ref r1, .ref r2, .int x3] [.int xs0, .int xs1, .int xs2, .ref rs3] h = (rn F lv 88 [.ref rs3, .int xs2, .int xs1, .int xs0] h).bind fun q => ev F (lv + 1) jm_Law_law 856 [.retAddr f0, .ref r1, .ref r2, .int x3] (q.1.toList ++ []) q.2 := ev_cR rfl rfl rfl hr
set_option maxRecDepth 50000 in
theorem s_Law_law_856 {F : jx_F} {lv : Nat} {h : jx_H} {f0 : Nat} {r1 : Nat} {r2 : Nat} {x3 : Int32} {xs0 : Int32} : ev F lv jm_Law_law 856 [.retAddr f0, .ref r1, .ref r2, .int x3] [.int xs0] h = ev F lv jm_Law_law 857 [.retAddr f0, .ref r1, .ref r2, .int x3] [.ref r2, .int xs0] h := ev_s rfl rfl rfl rfl
set_option maxRecDepth 50000 in
theorem s_Law_law_857 {F : jx_F} {lv : Nat} {h : jx_H} {f0 : Nat} {r1 : Nat} {r2 : Nat} {x3 : Int32} {rs0 : Nat} {xs1 : Int32} : ev F lv jm_Law_law 857 [.retAddr f0, .ref r1, .ref r2, .int x3] [.ref rs0, .int xs1] h = ev F lv jm_Law_law 858 [.retAddr f0, .ref r1, .ref r2, .int x3] [.retAddr f0, .ref rs0, .int xs1] h := ev_s rfl rfl rfl rfl
set_option maxRecDepth 50000 in
theorem s_Law_law_858 {F : jx_F} {lv : Nat} {h : jx_H} {f0 : Nat} {r1 : Nat} {r2 : Nat} {x3 : Int32} {fs0 : Nat} {rs1 : Nat} {xs2 : Int32} : ev F lv jm_Law_law 858 [.retAddr f0, .ref r1, .ref r2, .int x3] [.retAddr fs0, .ref rs1, .int xs2] h = ev F lv jm_Law_law 859 [.retAddr f0, .ref r1, .ref r2, .int x3] [.int x3, .retAddr fs0, .ref rs1, .int xs2] h := ev_s rfl rfl rfl rfl
set_option maxRecDepth 50000 in
theorem s_Law_law_859 {F : jx_F} {lv : Nat} {h : jx_H} {f0 : Nat} {r1 : Nat} {r2 : Nat} {x3 : Int32} {xs0 : Int32} {fs1 : Nat} {rs2 : Nat} {xs3 : Int32} : ev F lv jm_Law_law 859 [.retAddr f0, .ref r1, .ref r2, .int x3] [.int xs0, .retAddr fs1, .ref rs2, .int xs3] h = ev F lv jm_Law_law 860 [.retAddr f0, .ref r1, .ref r2, .int x3] [.int 1, .int xs0, .retAddr fs1, .ref rs2, .int xs3] h := ev_s rfl rfl rfl rfl
set_option maxRecDepth 50000 in
theorem s_Law_law_860 {F : jx_F} {lv : Nat} {h : jx_H} {f0 : Nat} {r1 : Nat} {r2 : Nat} {x3 : Int32} {xs0 : Int32} {xs1 : Int32} {fs2 : Nat} {rs3 : Nat} {xs4 : Int32} : ev F lv jm_Law_law 860 [.retAddr f0, .ref r1, .ref r2, .int x3] [.int xs0, .int xs1, .retAddr fs2, .ref rs3, .int xs4] h = ev F lv jm_Law_law 861 [.retAddr f0, .ref r1, .ref r2, .int x3] [.int (xs1 + xs0), .retAddr fs2, .ref rs3, .int xs4] h := ev_s rfl rfl rfl rfl
set_option maxRecDepth 50000 in
theorem s_Law_law_861 {F : jx_F} {lv : Nat} {h : jx_H} {f0 : Nat} {r1 : Nat} {r2 : Nat} {x3 : Int32} {xs0 : Int32} {fs1 : Nat} {rs2 : Nat} {xs3 : Int32} : ev F lv jm_Law_law 861 [.retAddr f0, .ref r1, .ref r2, .int x3] [.int xs0, .retAddr fs1, .ref rs2, .int xs3] h = jx_gi F.1 0 fs1 xs0 fun v => ev F lv jm_Law_law 862 [.retAddr f0, .ref r1, .ref r2, .int x3] [.int v, .ref rs2, .int xs3] h := ev_gi rfl rfl rfl rfl
set_option maxRecDepth 50000 in
theorem s_Law_law_862 {F : jx_F} {lv : Nat} {h : jx_H} {f0 : Nat} {r1 : Nat} {r2 : Nat} {x3 : Int32} {xs0 : Int32} {rs1 : Nat} {xs2 : Int32} : ev F lv jm_Law_law 862 [.retAddr f0, .ref r1, .ref r2, .int x3] [.int xs0, .ref rs1, .int xs2] h = ev F lv jm_Law_law 863 [.retAddr f0, .ref r1, .ref r2, .int x3] [.retAddr f0, .int xs0, .ref rs1, .int xs2] h := ev_s rfl rfl rfl rfl
set_option maxRecDepth 50000 in
theorem s_Law_law_863 {F : jx_F} {lv : Nat} {h : jx_H} {f0 : Nat} {r1 : Nat} {r2 : Nat} {x3 : Int32} {fs0 : Nat} {xs1 : Int32} {rs2 : Nat} {xs3 : Int32} : ev F lv jm_Law_law 863 [.retAddr f0, .ref r1, .ref r2, .int x3] [.retAddr fs0, .int xs1, .ref rs2, .int xs3] h = ev F lv jm_Law_law 864 [.retAddr f0, .ref r1, .ref r2, .int x3] [.int x3, .retAddr fs0, .int xs1, .ref rs2, .int xs3] h := ev_s rfl rfl rfl rfl
set_option maxRecDepth 50000 in
theorem s_Law_law_864 {F : jx_F} {lv : Nat} {h : jx_H} {f0 : Nat} {r1 : Nat} {r2 : Nat} {x3 : Int32} {xs0 : Int32} {fs1 : Nat} {xs2 : Int32} {rs3 : Nat} {xs4 : Int32} : ev F lv jm_Law_law 864 [.retAddr f0, .ref r1, .ref r2, .int x3] [.int xs0, .retAddr fs1, .int xs2, .ref rs3, .int xs4] h = ev F lv jm_Law_law 865 [.retAddr f0, .ref r1, .ref r2, .int x3] [.int 2, .int xs0, .retAddr fs1, .int xs2, .ref rs3, .int xs4] h := ev_s rfl rfl rfl rfl
set_option maxRecDepth 50000 in
theorem s_Law_law_865 {F : jx_F} {lv : Nat} {h : jx_H} {f0 : Nat} {r1 : Nat} {r2 : Nat} {x3 : Int32} {xs0 : Int32} {xs1 : Int32} {fs2 : Nat} {xs3 : Int32} {rs4 : Nat} {xs5 : Int32} : ev F lv jm_Law_law 865 [.retAddr f0, .ref r1, .ref r2, .int x3] [.int xs0, .int xs1, .retAddr fs2, .int xs3, .ref rs4, .int xs5] h = ev F lv jm_Law_law 866 [.retAddr f0, .ref r1, .ref r2, .int x3] [.int (xs1 + xs0), .retAddr fs2, .int xs3, .ref rs4, .int xs5] h := ev_s rfl rfl rfl rfl
set_option maxRecDepth 50000 in
theorem s_Law_law_866 {F : jx_F} {lv : Nat} {h : jx_H} {f0 : Nat} {r1 : Nat} {r2 : Nat} {x3 : Int32} {xs0 : Int32} {fs1 : Nat} {xs2 : Int32} {rs3 : Nat} {xs4 : Int32} : ev F lv jm_Law_law 866 [.retAddr f0, .ref r1, .ref r2, .int x3] [.int xs0, .retAddr fs1, .int xs2, .ref rs3, .int xs4] h = jx_gi F.1 0 fs1 xs0 fun v => ev F lv jm_Law_law 867 [.retAddr f0, .ref r1, .ref r2, .int x3] [.int v, .int xs2, .ref rs3, .int xs4] h := ev_gi rfl rfl rfl rfl
set_option maxRecDepth 50000 in
theorem s_Law_law_867 {F : jx_F} {lv : Nat} {h : jx_H} {f0 : Nat} {r1 : Nat} {r2 : Nat} {x3 : Int32} {xs0 : Int32} {xs1 : Int32} {rs2 : Nat} {xs3 : Int32} : ev F lv jm_Law_law 867 [.retAddr f0, .ref r1, .ref r2, .int x3] [.int xs0, .int xs1, .ref rs2, .int xs3] h = ev F lv jm_Law_law 868 [.retAddr f0, .ref r1, .ref r2, .int x3] [.retAddr f0, .int xs0, .int xs1, .ref rs2, .int xs3] h := ev_s rfl rfl rfl rfl
set_option maxRecDepth 50000 in
theorem s_Law_law_868 {F : jx_F} {lv : Nat} {h : jx_H} {f0 : Nat} {r1 : Nat} {r2 : Nat} {x3 : Int32} {fs0 : Nat} {xs1 : Int32} {xs2 : Int32} {rs3 : Nat} {xs4 : Int32} : ev F lv jm_Law_law 868 [.retAddr f0, .ref r1, .ref r2, .int x3] [.retAddr fs0, .int xs1, .int xs2, .ref rs3, .int xs4] h = ev F lv jm_Law_law 869 [.retAddr f0, .ref r1, .ref r2, .int x3] [.int x3, .retAddr fs0, .int xs1, .int xs2, .ref rs3, .int xs4] h := ev_s rfl rfl rfl rfl
set_option maxRecDepth 50000 in
theorem s_Law_law_869 {F : jx_F} {lv : Nat} {h : jx_H} {f0 : Nat} {r1 : Nat} {r2 : Nat} {x3 : Int32} {xs0 : Int32} {fs1 : Nat} {xs2 : Int32} {xs3 : Int32} {rs4 : Nat} {xs5 : Int32} : ev F lv jm_Law_law 869 [.retAddr f0, .ref r1, .ref r2, .int x3] [.int xs0, .retAddr fs1, .int xs2, .int xs3, .ref rs4, .int xs5] h = ev F lv jm_Law_law 870 [.retAddr f0, .ref r1, .ref r2, .int x3] [.int 3, .int xs0, .retAddr fs1, .int xs2, .int xs3, .ref rs4, .int xs5] h := ev_s rfl rfl rfl rfl
set_option maxRecDepth 50000 in
theorem s_Law_law_870 {F : jx_F} {lv : Nat} {h : jx_H} {f0 : Nat} {r1 : Nat} {r2 : Nat} {x3 : Int32} {xs0 : Int32} {xs1 : Int32} {fs2 : Nat} {xs3 : Int32} {xs4 : Int32} {rs5 : Nat} {xs6 : Int32} : ev F lv jm_Law_law 870 [.retAddr f0, .ref r1, .ref r2, .int x3] [.int xs0, .int xs1, .retAddr fs2, .int xs3, .int xs4, .ref rs5, .int xs6] h = ev F lv jm_Law_law 871 [.retAddr f0, .ref r1, .ref r2, .int x3] [.int (xs1 + xs0), .retAddr fs2, .int xs3, .int xs4, .ref rs5, .int xs6] h := ev_s rfl rfl rfl rfl
set_option maxRecDepth 50000 in
theorem s_Law_law_871 {F : jx_F} {lv : Nat} {h : jx_H} {f0 : Nat} {r1 : Nat} {r2 : Nat} {x3 : Int32} {xs0 : Int32} {fs1 : Nat} {xs2 : Int32} {xs3 : Int32} {rs4 : Nat} {xs5 : Int32} : ev F lv jm_Law_law 871 [.retAddr f0, .ref r1, .ref r2, .int x3] [.int xs0, .retAddr fs1, .int xs2, .int xs3, .ref rs4, .int xs5] h = jx_gi F.1 0 fs1 xs0 fun v => ev F lv jm_Law_law 872 [.retAddr f0, .ref r1, .ref r2, .int x3] [.int v, .int xs2, .int xs3, .ref rs4, .int xs5] h := ev_gi rfl rfl rfl rfl
set_option maxRecDepth 50000 in
theorem s_Law_law_872 {F : jx_F} {lv : Nat} {h : jx_H} {f0 : Nat} {r1 : Nat} {r2 : Nat} {x3 : Int32} {xs0 : Int32} {xs1 : Int32} {xs2 : Int32} {rs3 : Nat} {xs4 : Int32} (hr : jx_rcv F h 6 [.ref rs3, .int xs2, .int xs1, .int xs0] = true) : ev F (lv + 1) jm_Law_law 872 [.retAddr f0, .ref r1, .ref r2, .int x3] [.int xs0, .int xs1, .int xs2, .ref rs3, .int xs4] h = (rn F lv 165 [.ref rs3, .int xs2, .int xs1, .int xs0] h).bind fun q => ev F (lv + 1) jm_Law_law 875 [.retAddr f0, .ref r1, .ref r2, .int x3] (q.1.toList ++ [.int xs4]) q.2 := ev_cR rfl rfl rfl hr
set_option maxRecDepth 50000 in
theorem s_Law_law_875 {F : jx_F} {lv : Nat} {h : jx_H} {f0 : Nat} {r1 : Nat} {r2 : Nat} {x3 : Int32} {xs0 : Int32} {xs1 : Int32} : ev F lv jm_Law_law 875 [.retAddr f0, .ref r1, .ref r2, .int x3] [.int xs0, .int xs1] h = if xs1 = xs0 then ev F lv jm_Law_law 1045 [.retAddr f0, .ref r1, .ref r2, .int x3] [] h else ev F lv jm_Law_law 878 [.retAddr f0, .ref r1, .ref r2, .int x3] [] h := ev_b (off := 170) (b := jx_cmpB .eq xs1 xs0) rfl rfl rfl rfl rfl (by decide)
set_option maxRecDepth 50000 in
theorem s_Law_law_878 {F : jx_F} {lv : Nat} {h : jx_H} {f0 : Nat} {r1 : Nat} {r2 : Nat} {x3 : Int32} : ev F lv jm_Law_law 878 [.retAddr f0, .ref r1, .ref r2, .int x3] [] h = ev F lv jm_Law_law 879 [.retAddr f0, .ref r1, .ref r2, .int x3] [.int 0] h := ev_s rfl rfl rfl rfl
set_option maxRecDepth 50000 in
theorem s_Law_law_879 {F : jx_F} {lv : Nat} {h : jx_H} {f0 : Nat} {r1 : Nat} {r2 : Nat} {x3 : Int32} {xs0 : Int32} (hb : jx_ret1 4 xs0 = true) : ev F lv jm_Law_law 879 [.retAddr f0, .ref r1, .ref r2, .int x3] [.int xs0] h = some (some (.int xs0), h) := ev_rB rfl rfl hb
set_option maxRecDepth 50000 in
theorem s_Law_law_880 {F : jx_F} {lv : Nat} {h : jx_H} {f0 : Nat} {r1 : Nat} {r2 : Nat} {x3 : Int32} : ev F lv jm_Law_law 880 [.retAddr f0, .ref r1, .ref r2, .int x3] [] h = ev F lv jm_Law_law 881 [.retAddr f0, .ref r1, .ref r2, .int x3] [.ref r1] h := ev_s rfl rfl rfl rfl
set_option maxRecDepth 50000 in
theorem s_Law_law_881 {F : jx_F} {lv : Nat} {h : jx_H} {f0 : Nat} {r1 : Nat} {r2 : Nat} {x3 : Int32} {rs0 : Nat} : ev F lv jm_Law_law 881 [.retAddr f0, .ref r1, .ref r2, .int x3] [.ref rs0] h = ev F lv jm_Law_law 882 [.retAddr f0, .ref r1, .ref r2, .int x3] [.retAddr f0, .ref rs0] h := ev_s rfl rfl rfl rfl
set_option maxRecDepth 50000 in
theorem s_Law_law_882 {F : jx_F} {lv : Nat} {h : jx_H} {f0 : Nat} {r1 : Nat} {r2 : Nat} {x3 : Int32} {fs0 : Nat} {rs1 : Nat} : ev F lv jm_Law_law 882 [.retAddr f0, .ref r1, .ref r2, .int x3] [.retAddr fs0, .ref rs1] h = ev F lv jm_Law_law 883 [.retAddr f0, .ref r1, .ref r2, .int x3] [.int x3, .retAddr fs0, .ref rs1] h := ev_s rfl rfl rfl rfl
set_option maxRecDepth 50000 in
theorem s_Law_law_883 {F : jx_F} {lv : Nat} {h : jx_H} {f0 : Nat} {r1 : Nat} {r2 : Nat} {x3 : Int32} {xs0 : Int32} {fs1 : Nat} {rs2 : Nat} : ev F lv jm_Law_law 883 [.retAddr f0, .ref r1, .ref r2, .int x3] [.int xs0, .retAddr fs1, .ref rs2] h = ev F lv jm_Law_law 884 [.retAddr f0, .ref r1, .ref r2, .int x3] [.int 1, .int xs0, .retAddr fs1, .ref rs2] h := ev_s rfl rfl rfl rfl
set_option maxRecDepth 50000 in
theorem s_Law_law_884 {F : jx_F} {lv : Nat} {h : jx_H} {f0 : Nat} {r1 : Nat} {r2 : Nat} {x3 : Int32} {xs0 : Int32} {xs1 : Int32} {fs2 : Nat} {rs3 : Nat} : ev F lv jm_Law_law 884 [.retAddr f0, .ref r1, .ref r2, .int x3] [.int xs0, .int xs1, .retAddr fs2, .ref rs3] h = ev F lv jm_Law_law 885 [.retAddr f0, .ref r1, .ref r2, .int x3] [.int (xs1 + xs0), .retAddr fs2, .ref rs3] h := ev_s rfl rfl rfl rfl
set_option maxRecDepth 50000 in
theorem s_Law_law_885 {F : jx_F} {lv : Nat} {h : jx_H} {f0 : Nat} {r1 : Nat} {r2 : Nat} {x3 : Int32} {xs0 : Int32} {fs1 : Nat} {rs2 : Nat} : ev F lv jm_Law_law 885 [.retAddr f0, .ref r1, .ref r2, .int x3] [.int xs0, .retAddr fs1, .ref rs2] h = jx_gi F.1 0 fs1 xs0 fun v => ev F lv jm_Law_law 886 [.retAddr f0, .ref r1, .ref r2, .int x3] [.int v, .ref rs2] h := ev_gi rfl rfl rfl rfl
set_option maxRecDepth 50000 in
theorem s_Law_law_886 {F : jx_F} {lv : Nat} {h : jx_H} {f0 : Nat} {r1 : Nat} {r2 : Nat} {x3 : Int32} {xs0 : Int32} {rs1 : Nat} : ev F lv jm_Law_law 886 [.retAddr f0, .ref r1, .ref r2, .int x3] [.int xs0, .ref rs1] h = ev F lv jm_Law_law 887 [.retAddr f0, .ref r1, .ref r2, .int x3] [.retAddr f0, .int xs0, .ref rs1] h := ev_s rfl rfl rfl rfl
set_option maxRecDepth 50000 in
theorem s_Law_law_887 {F : jx_F} {lv : Nat} {h : jx_H} {f0 : Nat} {r1 : Nat} {r2 : Nat} {x3 : Int32} {fs0 : Nat} {xs1 : Int32} {rs2 : Nat} : ev F lv jm_Law_law 887 [.retAddr f0, .ref r1, .ref r2, .int x3] [.retAddr fs0, .int xs1, .ref rs2] h = ev F lv jm_Law_law 888 [.retAddr f0, .ref r1, .ref r2, .int x3] [.int x3, .retAddr fs0, .int xs1, .ref rs2] h := ev_s rfl rfl rfl rfl
set_option maxRecDepth 50000 in
theorem s_Law_law_888 {F : jx_F} {lv : Nat} {h : jx_H} {f0 : Nat} {r1 : Nat} {r2 : Nat} {x3 : Int32} {xs0 : Int32} {fs1 : Nat} {xs2 : Int32} {rs3 : Nat} : ev F lv jm_Law_law 888 [.retAddr f0, .ref r1, .ref r2, .int x3] [.int xs0, .retAddr fs1, .int xs2, .ref rs3] h = ev F lv jm_Law_law 889 [.retAddr f0, .ref r1, .ref r2, .int x3] [.int 2, .int xs0, .retAddr fs1, .int xs2, .ref rs3] h := ev_s rfl rfl rfl rfl
set_option maxRecDepth 50000 in
theorem s_Law_law_889 {F : jx_F} {lv : Nat} {h : jx_H} {f0 : Nat} {r1 : Nat} {r2 : Nat} {x3 : Int32} {xs0 : Int32} {xs1 : Int32} {fs2 : Nat} {xs3 : Int32} {rs4 : Nat} : ev F lv jm_Law_law 889 [.retAddr f0, .ref r1, .ref r2, .int x3] [.int xs0, .int xs1, .retAddr fs2, .int xs3, .ref rs4] h = ev F lv jm_Law_law 890 [.retAddr f0, .ref r1, .ref r2, .int x3] [.int (xs1 + xs0), .retAddr fs2, .int xs3, .ref rs4] h := ev_s rfl rfl rfl rfl
set_option maxRecDepth 50000 in
theorem s_Law_law_890 {F : jx_F} {lv : Nat} {h : jx_H} {f0 : Nat} {r1 : Nat} {r2 : Nat} {x3 : Int32} {xs0 : Int32} {fs1 : Nat} {xs2 : Int32} {rs3 : Nat} : ev F lv jm_Law_law 890 [.retAddr f0, .ref r1, .ref r2, .int x3] [.int xs0, .retAddr fs1, .int xs2, .ref rs3] h = jx_gi F.1 0 fs1 xs0 fun v => ev F lv jm_Law_law 891 [.retAddr f0, .ref r1, .ref r2, .int x3] [.int v, .int xs2, .ref rs3] h := ev_gi rfl rfl rfl rfl
set_option maxRecDepth 50000 in
theorem s_Law_law_891 {F : jx_F} {lv : Nat} {h : jx_H} {f0 : Nat} {r1 : Nat} {r2 : Nat} {x3 : Int32} {xs0 : Int32} {xs1 : Int32} {rs2 : Nat} : ev F lv jm_Law_law 891 [.retAddr f0, .ref r1, .ref r2, .int x3] [.int xs0, .int xs1, .ref rs2] h = ev F lv jm_Law_law 892 [.retAddr f0, .ref r1, .ref r2, .int x3] [.retAddr f0, .int xs0, .int xs1, .ref rs2] h := ev_s rfl rfl rfl rfl
set_option maxRecDepth 50000 in
theorem s_Law_law_892 {F : jx_F} {lv : Nat} {h : jx_H} {f0 : Nat} {r1 : Nat} {r2 : Nat} {x3 : Int32} {fs0 : Nat} {xs1 : Int32} {xs2 : Int32} {rs3 : Nat} : ev F lv jm_Law_law 892 [.retAddr f0, .ref r1, .ref r2, .int x3] [.retAddr fs0, .int xs1, .int xs2, .ref rs3] h = ev F lv jm_Law_law 893 [.retAddr f0, .ref r1, .ref r2, .int x3] [.int x3, .retAddr fs0, .int xs1, .int xs2, .ref rs3] h := ev_s rfl rfl rfl rfl
set_option maxRecDepth 50000 in
theorem s_Law_law_893 {F : jx_F} {lv : Nat} {h : jx_H} {f0 : Nat} {r1 : Nat} {r2 : Nat} {x3 : Int32} {xs0 : Int32} {fs1 : Nat} {xs2 : Int32} {xs3 : Int32} {rs4 : Nat} : ev F lv jm_Law_law 893 [.retAddr f0, .ref r1, .ref r2, .int x3] [.int xs0, .retAddr fs1, .int xs2, .int xs3, .ref rs4] h = ev F lv jm_Law_law 894 [.retAddr f0, .ref r1, .ref r2, .int x3] [.int 3, .int xs0, .retAddr fs1, .int xs2, .int xs3, .ref rs4] h := ev_s rfl rfl rfl rfl
set_option maxRecDepth 50000 in
theorem s_Law_law_894 {F : jx_F} {lv : Nat} {h : jx_H} {f0 : Nat} {r1 : Nat} {r2 : Nat} {x3 : Int32} {xs0 : Int32} {xs1 : Int32} {fs2 : Nat} {xs3 : Int32} {xs4 : Int32} {rs5 : Nat} : ev F lv jm_Law_law 894 [.retAddr f0, .ref r1, .ref r2, .int x3] [.int xs0, .int xs1, .retAddr fs2, .int xs3, .int xs4, .ref rs5] h = ev F lv jm_Law_law 895 [.retAddr f0, .ref r1, .ref r2, .int x3] [.int (xs1 + xs0), .retAddr fs2, .int xs3, .int xs4, .ref rs5] h := ev_s rfl rfl rfl rfl
set_option maxRecDepth 50000 in
theorem s_Law_law_895 {F : jx_F} {lv : Nat} {h : jx_H} {f0 : Nat} {r1 : Nat} {r2 : Nat} {x3 : Int32} {xs0 : Int32} {fs1 : Nat} {xs2 : Int32} {xs3 : Int32} {rs4 : Nat} : ev F lv jm_Law_law 895 [.retAddr f0, .ref r1, .ref r2, .int x3] [.int xs0, .retAddr fs1, .int xs2, .int xs3, .ref rs4] h = jx_gi F.1 0 fs1 xs0 fun v => ev F lv jm_Law_law 896 [.retAddr f0, .ref r1, .ref r2, .int x3] [.int v, .int xs2, .int xs3, .ref rs4] h := ev_gi rfl rfl rfl rfl
set_option maxRecDepth 50000 in
theorem s_Law_law_896 {F : jx_F} {lv : Nat} {h : jx_H} {f0 : Nat} {r1 : Nat} {r2 : Nat} {x3 : Int32} {xs0 : Int32} {xs1 : Int32} {xs2 : Int32} {rs3 : Nat} : ev F lv jm_Law_law 896 [.retAddr f0, .ref r1, .ref r2, .int x3] [.int xs0, .int xs1, .int xs2, .ref rs3] h = ev F lv jm_Law_law 897 [.retAddr f0, .ref r1, .ref r2, .int x3] [.retAddr f0, .int xs0, .int xs1, .int xs2, .ref rs3] h := ev_s rfl rfl rfl rfl
set_option maxRecDepth 50000 in
theorem s_Law_law_897 {F : jx_F} {lv : Nat} {h : jx_H} {f0 : Nat} {r1 : Nat} {r2 : Nat} {x3 : Int32} {fs0 : Nat} {xs1 : Int32} {xs2 : Int32} {xs3 : Int32} {rs4 : Nat} : ev F lv jm_Law_law 897 [.retAddr f0, .ref r1, .ref r2, .int x3] [.retAddr fs0, .int xs1, .int xs2, .int xs3, .ref rs4] h = ev F lv jm_Law_law 898 [.retAddr f0, .ref r1, .ref r2, .int x3] [.int x3, .retAddr fs0, .int xs1, .int xs2, .int xs3, .ref rs4] h := ev_s rfl rfl rfl rfl
set_option maxRecDepth 50000 in
theorem s_Law_law_898 {F : jx_F} {lv : Nat} {h : jx_H} {f0 : Nat} {r1 : Nat} {r2 : Nat} {x3 : Int32} {xs0 : Int32} {fs1 : Nat} {xs2 : Int32} {xs3 : Int32} {xs4 : Int32} {rs5 : Nat} : ev F lv jm_Law_law 898 [.retAddr f0, .ref r1, .ref r2, .int x3] [.int xs0, .retAddr fs1, .int xs2, .int xs3, .int xs4, .ref rs5] h = ev F lv jm_Law_law 899 [.retAddr f0, .ref r1, .ref r2, .int x3] [.int 4, .int xs0, .retAddr fs1, .int xs2, .int xs3, .int xs4, .ref rs5] h := ev_s rfl rfl rfl rfl
set_option maxRecDepth 50000 in
theorem s_Law_law_899 {F : jx_F} {lv : Nat} {h : jx_H} {f0 : Nat} {r1 : Nat} {r2 : Nat} {x3 : Int32} {xs0 : Int32} {xs1 : Int32} {fs2 : Nat} {xs3 : Int32} {xs4 : Int32} {xs5 : Int32} {rs6 : Nat} : ev F lv jm_Law_law 899 [.retAddr f0, .ref r1, .ref r2, .int x3] [.int xs0, .int xs1, .retAddr fs2, .int xs3, .int xs4, .int xs5, .ref rs6] h = ev F lv jm_Law_law 900 [.retAddr f0, .ref r1, .ref r2, .int x3] [.int (xs1 + xs0), .retAddr fs2, .int xs3, .int xs4, .int xs5, .ref rs6] h := ev_s rfl rfl rfl rfl
set_option maxRecDepth 50000 in
theorem s_Law_law_900 {F : jx_F} {lv : Nat} {h : jx_H} {f0 : Nat} {r1 : Nat} {r2 : Nat} {x3 : Int32} {xs0 : Int32} {fs1 : Nat} {xs2 : Int32} {xs3 : Int32} {xs4 : Int32} {rs5 : Nat} : ev F lv jm_Law_law 900 [.retAddr f0, .ref r1, .ref r2, .int x3] [.int xs0, .retAddr fs1, .int xs2, .int xs3, .int xs4, .ref rs5] h = jx_gi F.1 0 fs1 xs0 fun v => ev F lv jm_Law_law 901 [.retAddr f0, .ref r1, .ref r2, .int x3] [.int v, .int xs2, .int xs3, .int xs4, .ref rs5] h := ev_gi rfl rfl rfl rfl
set_option maxRecDepth 50000 in
theorem s_Law_law_901 {F : jx_F} {lv : Nat} {h : jx_H} {f0 : Nat} {r1 : Nat} {r2 : Nat} {x3 : Int32} {xs0 : Int32} {xs1 : Int32} {xs2 : Int32} {xs3 : Int32} {rs4 : Nat} : ev F lv jm_Law_law 901 [.retAddr f0, .ref r1, .ref r2, .int x3] [.int xs0, .int xs1, .int xs2, .int xs3, .ref rs4] h = ev F lv jm_Law_law 902 [.retAddr f0, .ref r1, .ref r2, .int x3] [.retAddr f0, .int xs0, .int xs1, .int xs2, .int xs3, .ref rs4] h := ev_s rfl rfl rfl rfl
set_option maxRecDepth 50000 in
theorem s_Law_law_902 {F : jx_F} {lv : Nat} {h : jx_H} {f0 : Nat} {r1 : Nat} {r2 : Nat} {x3 : Int32} {fs0 : Nat} {xs1 : Int32} {xs2 : Int32} {xs3 : Int32} {xs4 : Int32} {rs5 : Nat} : ev F lv jm_Law_law 902 [.retAddr f0, .ref r1, .ref r2, .int x3] [.retAddr fs0, .int xs1, .int xs2, .int xs3, .int xs4, .ref rs5] h = ev F lv jm_Law_law 903 [.retAddr f0, .ref r1, .ref r2, .int x3] [.int x3, .retAddr fs0, .int xs1, .int xs2, .int xs3, .int xs4, .ref rs5] h := ev_s rfl rfl rfl rfl
set_option maxRecDepth 50000 in
theorem s_Law_law_903 {F : jx_F} {lv : Nat} {h : jx_H} {f0 : Nat} {r1 : Nat} {r2 : Nat} {x3 : Int32} {xs0 : Int32} {fs1 : Nat} {xs2 : Int32} {xs3 : Int32} {xs4 : Int32} {xs5 : Int32} {rs6 : Nat} : ev F lv jm_Law_law 903 [.retAddr f0, .ref r1, .ref r2, .int x3] [.int xs0, .retAddr fs1, .int xs2, .int xs3, .int xs4, .int xs5, .ref rs6] h = ev F lv jm_Law_law 904 [.retAddr f0, .ref r1, .ref r2, .int x3] [.int 5, .int xs0, .retAddr fs1, .int xs2, .int xs3, .int xs4, .int xs5, .ref rs6] h := ev_s rfl rfl rfl rfl
set_option maxRecDepth 50000 in
theorem s_Law_law_904 {F : jx_F} {lv : Nat} {h : jx_H} {f0 : Nat} {r1 : Nat} {r2 : Nat} {x3 : Int32} {xs0 : Int32} {xs1 : Int32} {fs2 : Nat} {xs3 : Int32} {xs4 : Int32} {xs5 : Int32} {xs6 : Int32} {rs7 : Nat} : ev F lv jm_Law_law 904 [.retAddr f0, .ref r1, .ref r2, .int x3] [.int xs0, .int xs1, .retAddr fs2, .int xs3, .int xs4, .int xs5, .int xs6, .ref rs7] h = ev F lv jm_Law_law 905 [.retAddr f0, .ref r1, .ref r2, .int x3] [.int (xs1 + xs0), .retAddr fs2, .int xs3, .int xs4, .int xs5, .int xs6, .ref rs7] h := ev_s rfl rfl rfl rfl
set_option maxRecDepth 50000 in
theorem s_Law_law_905 {F : jx_F} {lv : Nat} {h : jx_H} {f0 : Nat} {r1 : Nat} {r2 : Nat} {x3 : Int32} {xs0 : Int32} {fs1 : Nat} {xs2 : Int32} {xs3 : Int32} {xs4 : Int32} {xs5 : Int32} {rs6 : Nat} : ev F lv jm_Law_law 905 [.retAddr f0, .ref r1, .ref r2, .int x3] [.int xs0, .retAddr fs1, .int xs2, .int xs3, .int xs4, .int xs5, .ref rs6] h = jx_gi F.1 0 fs1 xs0 fun v => ev F lv jm_Law_law 906 [.retAddr f0, .ref r1, .ref r2, .int x3] [.int v, .int xs2, .int xs3, .int xs4, .int xs5, .ref rs6] h := ev_gi rfl rfl rfl rfl
set_option maxRecDepth 50000 in
theorem s_Law_law_906 {F : jx_F} {lv : Nat} {h : jx_H} {f0 : Nat} {r1 : Nat} {r2 : Nat} {x3 : Int32} {xs0 : Int32} {xs1 : Int32} {xs2 : Int32} {xs3 : Int32} {xs4 : Int32} {rs5 : Nat} (hr : jx_rcv F h 5 [.ref rs5, .int xs4, .int xs3, .int xs2, .int xs1, .int xs0] = true) : ev F (lv + 1) jm_Law_law 906 [.retAddr f0, .ref r1, .ref r2, .int x3] [.int xs0, .int xs1, .int xs2, .int xs3, .int xs4, .ref rs5] h = (rn F lv 89 [.ref rs5, .int xs4, .int xs3, .int xs2, .int xs1, .int xs0] h).bind fun q => ev F (lv + 1) jm_Law_law 909 [.retAddr f0, .ref r1, .ref r2, .int x3] (q.1.toList ++ []) q.2 := ev_cR rfl rfl rfl hr
set_option maxRecDepth 50000 in
theorem s_Law_law_909 {F : jx_F} {lv : Nat} {h : jx_H} {f0 : Nat} {r1 : Nat} {r2 : Nat} {x3 : Int32} {xs0 : Int32} : ev F lv jm_Law_law 909 [.retAddr f0, .ref r1, .ref r2, .int x3] [.int xs0] h = ev F lv jm_Law_law 910 [.retAddr f0, .ref r1, .ref r2, .int x3] [.ref r2, .int xs0] h := ev_s rfl rfl rfl rfl
set_option maxRecDepth 50000 in
theorem s_Law_law_910 {F : jx_F} {lv : Nat} {h : jx_H} {f0 : Nat} {r1 : Nat} {r2 : Nat} {x3 : Int32} {rs0 : Nat} {xs1 : Int32} : ev F lv jm_Law_law 910 [.retAddr f0, .ref r1, .ref r2, .int x3] [.ref rs0, .int xs1] h = ev F lv jm_Law_law 911 [.retAddr f0, .ref r1, .ref r2, .int x3] [.retAddr f0, .ref rs0, .int xs1] h := ev_s rfl rfl rfl rfl
set_option maxRecDepth 50000 in
theorem s_Law_law_911 {F : jx_F} {lv : Nat} {h : jx_H} {f0 : Nat} {r1 : Nat} {r2 : Nat} {x3 : Int32} {fs0 : Nat} {rs1 : Nat} {xs2 : Int32} : ev F lv jm_Law_law 911 [.retAddr f0, .ref r1, .ref r2, .int x3] [.retAddr fs0, .ref rs1, .int xs2] h = ev F lv jm_Law_law 912 [.retAddr f0, .ref r1, .ref r2, .int x3] [.int x3, .retAddr fs0, .ref rs1, .int xs2] h := ev_s rfl rfl rfl rfl
set_option maxRecDepth 50000 in
theorem s_Law_law_912 {F : jx_F} {lv : Nat} {h : jx_H} {f0 : Nat} {r1 : Nat} {r2 : Nat} {x3 : Int32} {xs0 : Int32} {fs1 : Nat} {rs2 : Nat} {xs3 : Int32} : ev F lv jm_Law_law 912 [.retAddr f0, .ref r1, .ref r2, .int x3] [.int xs0, .retAddr fs1, .ref rs2, .int xs3] h = ev F lv jm_Law_law 913 [.retAddr f0, .ref r1, .ref r2, .int x3] [.int 1, .int xs0, .retAddr fs1, .ref rs2, .int xs3] h := ev_s rfl rfl rfl rfl
set_option maxRecDepth 50000 in
theorem s_Law_law_913 {F : jx_F} {lv : Nat} {h : jx_H} {f0 : Nat} {r1 : Nat} {r2 : Nat} {x3 : Int32} {xs0 : Int32} {xs1 : Int32} {fs2 : Nat} {rs3 : Nat} {xs4 : Int32} : ev F lv jm_Law_law 913 [.retAddr f0, .ref r1, .ref r2, .int x3] [.int xs0, .int xs1, .retAddr fs2, .ref rs3, .int xs4] h = ev F lv jm_Law_law 914 [.retAddr f0, .ref r1, .ref r2, .int x3] [.int (xs1 + xs0), .retAddr fs2, .ref rs3, .int xs4] h := ev_s rfl rfl rfl rfl
set_option maxRecDepth 50000 in
theorem s_Law_law_914 {F : jx_F} {lv : Nat} {h : jx_H} {f0 : Nat} {r1 : Nat} {r2 : Nat} {x3 : Int32} {xs0 : Int32} {fs1 : Nat} {rs2 : Nat} {xs3 : Int32} : ev F lv jm_Law_law 914 [.retAddr f0, .ref r1, .ref r2, .int x3] [.int xs0, .retAddr fs1, .ref rs2, .int xs3] h = jx_gi F.1 0 fs1 xs0 fun v => ev F lv jm_Law_law 915 [.retAddr f0, .ref r1, .ref r2, .int x3] [.int v, .ref rs2, .int xs3] h := ev_gi rfl rfl rfl rfl
set_option maxRecDepth 50000 in
theorem s_Law_law_915 {F : jx_F} {lv : Nat} {h : jx_H} {f0 : Nat} {r1 : Nat} {r2 : Nat} {x3 : Int32} {xs0 : Int32} {rs1 : Nat} {xs2 : Int32} : ev F lv jm_Law_law 915 [.retAddr f0, .ref r1, .ref r2, .int x3] [.int xs0, .ref rs1, .int xs2] h = ev F lv jm_Law_law 916 [.retAddr f0, .ref r1, .ref r2, .int x3] [.retAddr f0, .int xs0, .ref rs1, .int xs2] h := ev_s rfl rfl rfl rfl
set_option maxRecDepth 50000 in
theorem s_Law_law_916 {F : jx_F} {lv : Nat} {h : jx_H} {f0 : Nat} {r1 : Nat} {r2 : Nat} {x3 : Int32} {fs0 : Nat} {xs1 : Int32} {rs2 : Nat} {xs3 : Int32} : ev F lv jm_Law_law 916 [.retAddr f0, .ref r1, .ref r2, .int x3] [.retAddr fs0, .int xs1, .ref rs2, .int xs3] h = ev F lv jm_Law_law 917 [.retAddr f0, .ref r1, .ref r2, .int x3] [.int x3, .retAddr fs0, .int xs1, .ref rs2, .int xs3] h := ev_s rfl rfl rfl rfl
set_option maxRecDepth 50000 in
theorem s_Law_law_917 {F : jx_F} {lv : Nat} {h : jx_H} {f0 : Nat} {r1 : Nat} {r2 : Nat} {x3 : Int32} {xs0 : Int32} {fs1 : Nat} {xs2 : Int32} {rs3 : Nat} {xs4 : Int32} : ev F lv jm_Law_law 917 [.retAddr f0, .ref r1, .ref r2, .int x3] [.int xs0, .retAddr fs1, .int xs2, .ref rs3, .int xs4] h = ev F lv jm_Law_law 918 [.retAddr f0, .ref r1, .ref r2, .int x3] [.int 2, .int xs0, .retAddr fs1, .int xs2, .ref rs3, .int xs4] h := ev_s rfl rfl rfl rfl
set_option maxRecDepth 50000 in
theorem s_Law_law_918 {F : jx_F} {lv : Nat} {h : jx_H} {f0 : Nat} {r1 : Nat} {r2 : Nat} {x3 : Int32} {xs0 : Int32} {xs1 : Int32} {fs2 : Nat} {xs3 : Int32} {rs4 : Nat} {xs5 : Int32} : ev F lv jm_Law_law 918 [.retAddr f0, .ref r1, .ref r2, .int x3] [.int xs0, .int xs1, .retAddr fs2, .int xs3, .ref rs4, .int xs5] h = ev F lv jm_Law_law 919 [.retAddr f0, .ref r1, .ref r2, .int x3] [.int (xs1 + xs0), .retAddr fs2, .int xs3, .ref rs4, .int xs5] h := ev_s rfl rfl rfl rfl
set_option maxRecDepth 50000 in
theorem s_Law_law_919 {F : jx_F} {lv : Nat} {h : jx_H} {f0 : Nat} {r1 : Nat} {r2 : Nat} {x3 : Int32} {xs0 : Int32} {fs1 : Nat} {xs2 : Int32} {rs3 : Nat} {xs4 : Int32} : ev F lv jm_Law_law 919 [.retAddr f0, .ref r1, .ref r2, .int x3] [.int xs0, .retAddr fs1, .int xs2, .ref rs3, .int xs4] h = jx_gi F.1 0 fs1 xs0 fun v => ev F lv jm_Law_law 920 [.retAddr f0, .ref r1, .ref r2, .int x3] [.int v, .int xs2, .ref rs3, .int xs4] h := ev_gi rfl rfl rfl rfl
set_option maxRecDepth 50000 in
theorem s_Law_law_920 {F : jx_F} {lv : Nat} {h : jx_H} {f0 : Nat} {r1 : Nat} {r2 : Nat} {x3 : Int32} {xs0 : Int32} {xs1 : Int32} {rs2 : Nat} {xs3 : Int32} : ev F lv jm_Law_law 920 [.retAddr f0, .ref r1, .ref r2, .int x3] [.int xs0, .int xs1, .ref rs2, .int xs3] h = ev F lv jm_Law_law 921 [.retAddr f0, .ref r1, .ref r2, .int x3] [.retAddr f0, .int xs0, .int xs1, .ref rs2, .int xs3] h := ev_s rfl rfl rfl rfl
set_option maxRecDepth 50000 in
theorem s_Law_law_921 {F : jx_F} {lv : Nat} {h : jx_H} {f0 : Nat} {r1 : Nat} {r2 : Nat} {x3 : Int32} {fs0 : Nat} {xs1 : Int32} {xs2 : Int32} {rs3 : Nat} {xs4 : Int32} : ev F lv jm_Law_law 921 [.retAddr f0, .ref r1, .ref r2, .int x3] [.retAddr fs0, .int xs1, .int xs2, .ref rs3, .int xs4] h = ev F lv jm_Law_law 922 [.retAddr f0, .ref r1, .ref r2, .int x3] [.int x3, .retAddr fs0, .int xs1, .int xs2, .ref rs3, .int xs4] h := ev_s rfl rfl rfl rfl
set_option maxRecDepth 50000 in
theorem s_Law_law_922 {F : jx_F} {lv : Nat} {h : jx_H} {f0 : Nat} {r1 : Nat} {r2 : Nat} {x3 : Int32} {xs0 : Int32} {fs1 : Nat} {xs2 : Int32} {xs3 : Int32} {rs4 : Nat} {xs5 : Int32} : ev F lv jm_Law_law 922 [.retAddr f0, .ref r1, .ref r2, .int x3] [.int xs0, .retAddr fs1, .int xs2, .int xs3, .ref rs4, .int xs5] h = ev F lv jm_Law_law 923 [.retAddr f0, .ref r1, .ref r2, .int x3] [.int 3, .int xs0, .retAddr fs1, .int xs2, .int xs3, .ref rs4, .int xs5] h := ev_s rfl rfl rfl rfl
set_option maxRecDepth 50000 in
theorem s_Law_law_923 {F : jx_F} {lv : Nat} {h : jx_H} {f0 : Nat} {r1 : Nat} {r2 : Nat} {x3 : Int32} {xs0 : Int32} {xs1 : Int32} {fs2 : Nat} {xs3 : Int32} {xs4 : Int32} {rs5 : Nat} {xs6 : Int32} : ev F lv jm_Law_law 923 [.retAddr f0, .ref r1, .ref r2, .int x3] [.int xs0, .int xs1, .retAddr fs2, .int xs3, .int xs4, .ref rs5, .int xs6] h = ev F lv jm_Law_law 924 [.retAddr f0, .ref r1, .ref r2, .int x3] [.int (xs1 + xs0), .retAddr fs2, .int xs3, .int xs4, .ref rs5, .int xs6] h := ev_s rfl rfl rfl rfl
set_option maxRecDepth 50000 in
theorem s_Law_law_924 {F : jx_F} {lv : Nat} {h : jx_H} {f0 : Nat} {r1 : Nat} {r2 : Nat} {x3 : Int32} {xs0 : Int32} {fs1 : Nat} {xs2 : Int32} {xs3 : Int32} {rs4 : Nat} {xs5 : Int32} : ev F lv jm_Law_law 924 [.retAddr f0, .ref r1, .ref r2, .int x3] [.int xs0, .retAddr fs1, .int xs2, .int xs3, .ref rs4, .int xs5] h = jx_gi F.1 0 fs1 xs0 fun v => ev F lv jm_Law_law 925 [.retAddr f0, .ref r1, .ref r2, .int x3] [.int v, .int xs2, .int xs3, .ref rs4, .int xs5] h := ev_gi rfl rfl rfl rfl
set_option maxRecDepth 50000 in
theorem s_Law_law_925 {F : jx_F} {lv : Nat} {h : jx_H} {f0 : Nat} {r1 : Nat} {r2 : Nat} {x3 : Int32} {xs0 : Int32} {xs1 : Int32} {xs2 : Int32} {rs3 : Nat} {xs4 : Int32} : ev F lv jm_Law_law 925 [.retAddr f0, .ref r1, .ref r2, .int x3] [.int xs0, .int xs1, .int xs2, .ref rs3, .int xs4] h = ev F lv jm_Law_law 926 [.retAddr f0, .ref r1, .ref r2, .int x3] [.retAddr f0, .int xs0, .int xs1, .int xs2, .ref rs3, .int xs4] h := ev_s rfl rfl rfl rfl
set_option maxRecDepth 50000 in
theorem s_Law_law_926 {F : jx_F} {lv : Nat} {h : jx_H} {f0 : Nat} {r1 : Nat} {r2 : Nat} {x3 : Int32} {fs0 : Nat} {xs1 : Int32} {xs2 : Int32} {xs3 : Int32} {rs4 : Nat} {xs5 : Int32} : ev F lv jm_Law_law 926 [.retAddr f0, .ref r1, .ref r2, .int x3] [.retAddr fs0, .int xs1, .int xs2, .int xs3, .ref rs4, .int xs5] h = ev F lv jm_Law_law 927 [.retAddr f0, .ref r1, .ref r2, .int x3] [.int x3, .retAddr fs0, .int xs1, .int xs2, .int xs3, .ref rs4, .int xs5] h := ev_s rfl rfl rfl rfl
set_option maxRecDepth 50000 in
theorem s_Law_law_927 {F : jx_F} {lv : Nat} {h : jx_H} {f0 : Nat} {r1 : Nat} {r2 : Nat} {x3 : Int32} {xs0 : Int32} {fs1 : Nat} {xs2 : Int32} {xs3 : Int32} {xs4 : Int32} {rs5 : Nat} {xs6 : Int32} : ev F lv jm_Law_law 927 [.retAddr f0, .ref r1, .ref r2, .int x3] [.int xs0, .retAddr fs1, .int xs2, .int xs3, .int xs4, .ref rs5, .int xs6] h = ev F lv jm_Law_law 928 [.retAddr f0, .ref r1, .ref r2, .int x3] [.int 4, .int xs0, .retAddr fs1, .int xs2, .int xs3, .int xs4, .ref rs5, .int xs6] h := ev_s rfl rfl rfl rfl
set_option maxRecDepth 50000 in
theorem s_Law_law_928 {F : jx_F} {lv : Nat} {h : jx_H} {f0 : Nat} {r1 : Nat} {r2 : Nat} {x3 : Int32} {xs0 : Int32} {xs1 : Int32} {fs2 : Nat} {xs3 : Int32} {xs4 : Int32} {xs5 : Int32} {rs6 : Nat} {xs7 : Int32} : ev F lv jm_Law_law 928 [.retAddr f0, .ref r1, .ref r2, .int x3] [.int xs0, .int xs1, .retAddr fs2, .int xs3, .int xs4, .int xs5, .ref rs6, .int xs7] h = ev F lv jm_Law_law 929 [.retAddr f0, .ref r1, .ref r2, .int x3] [.int (xs1 + xs0), .retAddr fs2, .int xs3, .int xs4, .int xs5, .ref rs6, .int xs7] h := ev_s rfl rfl rfl rfl
set_option maxRecDepth 50000 in
theorem s_Law_law_929 {F : jx_F} {lv : Nat} {h : jx_H} {f0 : Nat} {r1 : Nat} {r2 : Nat} {x3 : Int32} {xs0 : Int32} {fs1 : Nat} {xs2 : Int32} {xs3 : Int32} {xs4 : Int32} {rs5 : Nat} {xs6 : Int32} : ev F lv jm_Law_law 929 [.retAddr f0, .ref r1, .ref r2, .int x3] [.int xs0, .retAddr fs1, .int xs2, .int xs3, .int xs4, .ref rs5, .int xs6] h = jx_gi F.1 0 fs1 xs0 fun v => ev F lv jm_Law_law 930 [.retAddr f0, .ref r1, .ref r2, .int x3] [.int v, .int xs2, .int xs3, .int xs4, .ref rs5, .int xs6] h := ev_gi rfl rfl rfl rfl
set_option maxRecDepth 50000 in
theorem s_Law_law_930 {F : jx_F} {lv : Nat} {h : jx_H} {f0 : Nat} {r1 : Nat} {r2 : Nat} {x3 : Int32} {xs0 : Int32} {xs1 : Int32} {xs2 : Int32} {xs3 : Int32} {rs4 : Nat} {xs5 : Int32} : ev F lv jm_Law_law 930 [.retAddr f0, .ref r1, .ref r2, .int x3] [.int xs0, .int xs1, .int xs2, .int xs3, .ref rs4, .int xs5] h = ev F lv jm_Law_law 931 [.retAddr f0, .ref r1, .ref r2, .int x3] [.retAddr f0, .int xs0, .int xs1, .int xs2, .int xs3, .ref rs4, .int xs5] h := ev_s rfl rfl rfl rfl
set_option maxRecDepth 50000 in
theorem s_Law_law_931 {F : jx_F} {lv : Nat} {h : jx_H} {f0 : Nat} {r1 : Nat} {r2 : Nat} {x3 : Int32} {fs0 : Nat} {xs1 : Int32} {xs2 : Int32} {xs3 : Int32} {xs4 : Int32} {rs5 : Nat} {xs6 : Int32} : ev F lv jm_Law_law 931 [.retAddr f0, .ref r1, .ref r2, .int x3] [.retAddr fs0, .int xs1, .int xs2, .int xs3, .int xs4, .ref rs5, .int xs6] h = ev F lv jm_Law_law 932 [.retAddr f0, .ref r1, .ref r2, .int x3] [.int x3, .retAddr fs0, .int xs1, .int xs2, .int xs3, .int xs4, .ref rs5, .int xs6] h := ev_s rfl rfl rfl rfl
set_option maxRecDepth 50000 in
theorem s_Law_law_932 {F : jx_F} {lv : Nat} {h : jx_H} {f0 : Nat} {r1 : Nat} {r2 : Nat} {x3 : Int32} {xs0 : Int32} {fs1 : Nat} {xs2 : Int32} {xs3 : Int32} {xs4 : Int32} {xs5 : Int32} {rs6 : Nat} {xs7 : Int32} : ev F lv jm_Law_law 932 [.retAddr f0, .ref r1, .ref r2, .int x3] [.int xs0, .retAddr fs1, .int xs2, .int xs3, .int xs4, .int xs5, .ref rs6, .int xs7] h = ev F lv jm_Law_law 933 [.retAddr f0, .ref r1, .ref r2, .int x3] [.int 5, .int xs0, .retAddr fs1, .int xs2, .int xs3, .int xs4, .int xs5, .ref rs6, .int xs7] h := ev_s rfl rfl rfl rfl
set_option maxRecDepth 50000 in
theorem s_Law_law_933 {F : jx_F} {lv : Nat} {h : jx_H} {f0 : Nat} {r1 : Nat} {r2 : Nat} {x3 : Int32} {xs0 : Int32} {xs1 : Int32} {fs2 : Nat} {xs3 : Int32} {xs4 : Int32} {xs5 : Int32} {xs6 : Int32} {rs7 : Nat} {xs8 : Int32} : ev F lv jm_Law_law 933 [.retAddr f0, .ref r1, .ref r2, .int x3] [.int xs0, .int xs1, .retAddr fs2, .int xs3, .int xs4, .int xs5, .int xs6, .ref rs7, .int xs8] h = ev F lv jm_Law_law 934 [.retAddr f0, .ref r1, .ref r2, .int x3] [.int (xs1 + xs0), .retAddr fs2, .int xs3, .int xs4, .int xs5, .int xs6, .ref rs7, .int xs8] h := ev_s rfl rfl rfl rfl
set_option maxRecDepth 50000 in
theorem s_Law_law_934 {F : jx_F} {lv : Nat} {h : jx_H} {f0 : Nat} {r1 : Nat} {r2 : Nat} {x3 : Int32} {xs0 : Int32} {fs1 : Nat} {xs2 : Int32} {xs3 : Int32} {xs4 : Int32} {xs5 : Int32} {rs6 : Nat} {xs7 : Int32} : ev F lv jm_Law_law 934 [.retAddr f0, .ref r1, .ref r2, .int x3] [.int xs0, .retAddr fs1, .int xs2, .int xs3, .int xs4, .int xs5, .ref rs6, .int xs7] h = jx_gi F.1 0 fs1 xs0 fun v => ev F lv jm_Law_law 935 [.retAddr f0, .ref r1, .ref r2, .int x3] [.int v, .int xs2, .int xs3, .int xs4, .int xs5, .ref rs6, .int xs7] h := ev_gi rfl rfl rfl rfl
set_option maxRecDepth 50000 in
theorem s_Law_law_935 {F : jx_F} {lv : Nat} {h : jx_H} {f0 : Nat} {r1 : Nat} {r2 : Nat} {x3 : Int32} {xs0 : Int32} {xs1 : Int32} {xs2 : Int32} {xs3 : Int32} {xs4 : Int32} {rs5 : Nat} {xs6 : Int32} (hr : jx_rcv F h 6 [.ref rs5, .int xs4, .int xs3, .int xs2, .int xs1, .int xs0] = true) : ev F (lv + 1) jm_Law_law 935 [.retAddr f0, .ref r1, .ref r2, .int x3] [.int xs0, .int xs1, .int xs2, .int xs3, .int xs4, .ref rs5, .int xs6] h = (rn F lv 167 [.ref rs5, .int xs4, .int xs3, .int xs2, .int xs1, .int xs0] h).bind fun q => ev F (lv + 1) jm_Law_law 938 [.retAddr f0, .ref r1, .ref r2, .int x3] (q.1.toList ++ [.int xs6]) q.2 := ev_cR rfl rfl rfl hr
set_option maxRecDepth 50000 in
theorem s_Law_law_938 {F : jx_F} {lv : Nat} {h : jx_H} {f0 : Nat} {r1 : Nat} {r2 : Nat} {x3 : Int32} {xs0 : Int32} {xs1 : Int32} : ev F lv jm_Law_law 938 [.retAddr f0, .ref r1, .ref r2, .int x3] [.int xs0, .int xs1] h = if xs1 = xs0 then ev F lv jm_Law_law 1045 [.retAddr f0, .ref r1, .ref r2, .int x3] [] h else ev F lv jm_Law_law 941 [.retAddr f0, .ref r1, .ref r2, .int x3] [] h := ev_b (off := 107) (b := jx_cmpB .eq xs1 xs0) rfl rfl rfl rfl rfl (by decide)
set_option maxRecDepth 50000 in
theorem s_Law_law_941 {F : jx_F} {lv : Nat} {h : jx_H} {f0 : Nat} {r1 : Nat} {r2 : Nat} {x3 : Int32} : ev F lv jm_Law_law 941 [.retAddr f0, .ref r1, .ref r2, .int x3] [] h = ev F lv jm_Law_law 942 [.retAddr f0, .ref r1, .ref r2, .int x3] [.int 0] h := ev_s rfl rfl rfl rfl
set_option maxRecDepth 50000 in
theorem s_Law_law_942 {F : jx_F} {lv : Nat} {h : jx_H} {f0 : Nat} {r1 : Nat} {r2 : Nat} {x3 : Int32} {xs0 : Int32} (hb : jx_ret1 4 xs0 = true) : ev F lv jm_Law_law 942 [.retAddr f0, .ref r1, .ref r2, .int x3] [.int xs0] h = some (some (.int xs0), h) := ev_rB rfl rfl hb
set_option maxRecDepth 50000 in
theorem s_Law_law_943 {F : jx_F} {lv : Nat} {h : jx_H} {f0 : Nat} {r1 : Nat} {r2 : Nat} {x3 : Int32} : ev F lv jm_Law_law 943 [.retAddr f0, .ref r1, .ref r2, .int x3] [] h = ev F lv jm_Law_law 944 [.retAddr f0, .ref r1, .ref r2, .int x3] [.ref r1] h := ev_s rfl rfl rfl rfl
set_option maxRecDepth 50000 in
theorem s_Law_law_944 {F : jx_F} {lv : Nat} {h : jx_H} {f0 : Nat} {r1 : Nat} {r2 : Nat} {x3 : Int32} {rs0 : Nat} : ev F lv jm_Law_law 944 [.retAddr f0, .ref r1, .ref r2, .int x3] [.ref rs0] h = ev F lv jm_Law_law 945 [.retAddr f0, .ref r1, .ref r2, .int x3] [.retAddr f0, .ref rs0] h := ev_s rfl rfl rfl rfl
set_option maxRecDepth 50000 in
theorem s_Law_law_945 {F : jx_F} {lv : Nat} {h : jx_H} {f0 : Nat} {r1 : Nat} {r2 : Nat} {x3 : Int32} {fs0 : Nat} {rs1 : Nat} : ev F lv jm_Law_law 945 [.retAddr f0, .ref r1, .ref r2, .int x3] [.retAddr fs0, .ref rs1] h = ev F lv jm_Law_law 946 [.retAddr f0, .ref r1, .ref r2, .int x3] [.int x3, .retAddr fs0, .ref rs1] h := ev_s rfl rfl rfl rfl
set_option maxRecDepth 50000 in
theorem s_Law_law_946 {F : jx_F} {lv : Nat} {h : jx_H} {f0 : Nat} {r1 : Nat} {r2 : Nat} {x3 : Int32} {xs0 : Int32} {fs1 : Nat} {rs2 : Nat} : ev F lv jm_Law_law 946 [.retAddr f0, .ref r1, .ref r2, .int x3] [.int xs0, .retAddr fs1, .ref rs2] h = ev F lv jm_Law_law 947 [.retAddr f0, .ref r1, .ref r2, .int x3] [.int 1, .int xs0, .retAddr fs1, .ref rs2] h := ev_s rfl rfl rfl rfl
set_option maxRecDepth 50000 in
theorem s_Law_law_947 {F : jx_F} {lv : Nat} {h : jx_H} {f0 : Nat} {r1 : Nat} {r2 : Nat} {x3 : Int32} {xs0 : Int32} {xs1 : Int32} {fs2 : Nat} {rs3 : Nat} : ev F lv jm_Law_law 947 [.retAddr f0, .ref r1, .ref r2, .int x3] [.int xs0, .int xs1, .retAddr fs2, .ref rs3] h = ev F lv jm_Law_law 948 [.retAddr f0, .ref r1, .ref r2, .int x3] [.int (xs1 + xs0), .retAddr fs2, .ref rs3] h := ev_s rfl rfl rfl rfl
set_option maxRecDepth 50000 in
theorem s_Law_law_948 {F : jx_F} {lv : Nat} {h : jx_H} {f0 : Nat} {r1 : Nat} {r2 : Nat} {x3 : Int32} {xs0 : Int32} {fs1 : Nat} {rs2 : Nat} : ev F lv jm_Law_law 948 [.retAddr f0, .ref r1, .ref r2, .int x3] [.int xs0, .retAddr fs1, .ref rs2] h = jx_gi F.1 0 fs1 xs0 fun v => ev F lv jm_Law_law 949 [.retAddr f0, .ref r1, .ref r2, .int x3] [.int v, .ref rs2] h := ev_gi rfl rfl rfl rfl
set_option maxRecDepth 50000 in
theorem s_Law_law_949 {F : jx_F} {lv : Nat} {h : jx_H} {f0 : Nat} {r1 : Nat} {r2 : Nat} {x3 : Int32} {xs0 : Int32} {rs1 : Nat} : ev F lv jm_Law_law 949 [.retAddr f0, .ref r1, .ref r2, .int x3] [.int xs0, .ref rs1] h = ev F lv jm_Law_law 950 [.retAddr f0, .ref r1, .ref r2, .int x3] [.retAddr f0, .int xs0, .ref rs1] h := ev_s rfl rfl rfl rfl
set_option maxRecDepth 50000 in
theorem s_Law_law_950 {F : jx_F} {lv : Nat} {h : jx_H} {f0 : Nat} {r1 : Nat} {r2 : Nat} {x3 : Int32} {fs0 : Nat} {xs1 : Int32} {rs2 : Nat} : ev F lv jm_Law_law 950 [.retAddr f0, .ref r1, .ref r2, .int x3] [.retAddr fs0, .int xs1, .ref rs2] h = ev F lv jm_Law_law 951 [.retAddr f0, .ref r1, .ref r2, .int x3] [.int x3, .retAddr fs0, .int xs1, .ref rs2] h := ev_s rfl rfl rfl rfl
set_option maxRecDepth 50000 in
theorem s_Law_law_951 {F : jx_F} {lv : Nat} {h : jx_H} {f0 : Nat} {r1 : Nat} {r2 : Nat} {x3 : Int32} {xs0 : Int32} {fs1 : Nat} {xs2 : Int32} {rs3 : Nat} : ev F lv jm_Law_law 951 [.retAddr f0, .ref r1, .ref r2, .int x3] [.int xs0, .retAddr fs1, .int xs2, .ref rs3] h = ev F lv jm_Law_law 952 [.retAddr f0, .ref r1, .ref r2, .int x3] [.int 2, .int xs0, .retAddr fs1, .int xs2, .ref rs3] h := ev_s rfl rfl rfl rfl
set_option maxRecDepth 50000 in
theorem s_Law_law_952 {F : jx_F} {lv : Nat} {h : jx_H} {f0 : Nat} {r1 : Nat} {r2 : Nat} {x3 : Int32} {xs0 : Int32} {xs1 : Int32} {fs2 : Nat} {xs3 : Int32} {rs4 : Nat} : ev F lv jm_Law_law 952 [.retAddr f0, .ref r1, .ref r2, .int x3] [.int xs0, .int xs1, .retAddr fs2, .int xs3, .ref rs4] h = ev F lv jm_Law_law 953 [.retAddr f0, .ref r1, .ref r2, .int x3] [.int (xs1 + xs0), .retAddr fs2, .int xs3, .ref rs4] h := ev_s rfl rfl rfl rfl
set_option maxRecDepth 50000 in
theorem s_Law_law_953 {F : jx_F} {lv : Nat} {h : jx_H} {f0 : Nat} {r1 : Nat} {r2 : Nat} {x3 : Int32} {xs0 : Int32} {fs1 : Nat} {xs2 : Int32} {rs3 : Nat} : ev F lv jm_Law_law 953 [.retAddr f0, .ref r1, .ref r2, .int x3] [.int xs0, .retAddr fs1, .int xs2, .ref rs3] h = jx_gi F.1 0 fs1 xs0 fun v => ev F lv jm_Law_law 954 [.retAddr f0, .ref r1, .ref r2, .int x3] [.int v, .int xs2, .ref rs3] h := ev_gi rfl rfl rfl rfl
set_option maxRecDepth 50000 in
theorem s_Law_law_954 {F : jx_F} {lv : Nat} {h : jx_H} {f0 : Nat} {r1 : Nat} {r2 : Nat} {x3 : Int32} {xs0 : Int32} {xs1 : Int32} {rs2 : Nat} (hr : jx_rcv F h 5 [.ref rs2, .int xs1, .int xs0] = true) : ev F (lv + 1) jm_Law_law 954 [.retAddr f0, .ref r1, .ref r2, .int x3] [.int xs0, .int xs1, .ref rs2] h = (rn F lv 90 [.ref rs2, .int xs1, .int xs0] h).bind fun q => ev F (lv + 1) jm_Law_law 957 [.retAddr f0, .ref r1, .ref r2, .int x3] (q.1.toList ++ []) q.2 := ev_cR rfl rfl rfl hr
set_option maxRecDepth 50000 in
theorem s_Law_law_957 {F : jx_F} {lv : Nat} {h : jx_H} {f0 : Nat} {r1 : Nat} {r2 : Nat} {x3 : Int32} {xs0 : Int32} : ev F lv jm_Law_law 957 [.retAddr f0, .ref r1, .ref r2, .int x3] [.int xs0] h = ev F lv jm_Law_law 958 [.retAddr f0, .ref r1, .ref r2, .int x3] [.ref r2, .int xs0] h := ev_s rfl rfl rfl rfl
set_option maxRecDepth 50000 in
theorem s_Law_law_958 {F : jx_F} {lv : Nat} {h : jx_H} {f0 : Nat} {r1 : Nat} {r2 : Nat} {x3 : Int32} {rs0 : Nat} {xs1 : Int32} : ev F lv jm_Law_law 958 [.retAddr f0, .ref r1, .ref r2, .int x3] [.ref rs0, .int xs1] h = ev F lv jm_Law_law 959 [.retAddr f0, .ref r1, .ref r2, .int x3] [.retAddr f0, .ref rs0, .int xs1] h := ev_s rfl rfl rfl rfl
set_option maxRecDepth 50000 in
theorem s_Law_law_959 {F : jx_F} {lv : Nat} {h : jx_H} {f0 : Nat} {r1 : Nat} {r2 : Nat} {x3 : Int32} {fs0 : Nat} {rs1 : Nat} {xs2 : Int32} : ev F lv jm_Law_law 959 [.retAddr f0, .ref r1, .ref r2, .int x3] [.retAddr fs0, .ref rs1, .int xs2] h = ev F lv jm_Law_law 960 [.retAddr f0, .ref r1, .ref r2, .int x3] [.int x3, .retAddr fs0, .ref rs1, .int xs2] h := ev_s rfl rfl rfl rfl
set_option maxRecDepth 50000 in
theorem s_Law_law_960 {F : jx_F} {lv : Nat} {h : jx_H} {f0 : Nat} {r1 : Nat} {r2 : Nat} {x3 : Int32} {xs0 : Int32} {fs1 : Nat} {rs2 : Nat} {xs3 : Int32} : ev F lv jm_Law_law 960 [.retAddr f0, .ref r1, .ref r2, .int x3] [.int xs0, .retAddr fs1, .ref rs2, .int xs3] h = ev F lv jm_Law_law 961 [.retAddr f0, .ref r1, .ref r2, .int x3] [.int 1, .int xs0, .retAddr fs1, .ref rs2, .int xs3] h := ev_s rfl rfl rfl rfl
set_option maxRecDepth 50000 in
theorem s_Law_law_961 {F : jx_F} {lv : Nat} {h : jx_H} {f0 : Nat} {r1 : Nat} {r2 : Nat} {x3 : Int32} {xs0 : Int32} {xs1 : Int32} {fs2 : Nat} {rs3 : Nat} {xs4 : Int32} : ev F lv jm_Law_law 961 [.retAddr f0, .ref r1, .ref r2, .int x3] [.int xs0, .int xs1, .retAddr fs2, .ref rs3, .int xs4] h = ev F lv jm_Law_law 962 [.retAddr f0, .ref r1, .ref r2, .int x3] [.int (xs1 + xs0), .retAddr fs2, .ref rs3, .int xs4] h := ev_s rfl rfl rfl rfl
set_option maxRecDepth 50000 in
theorem s_Law_law_962 {F : jx_F} {lv : Nat} {h : jx_H} {f0 : Nat} {r1 : Nat} {r2 : Nat} {x3 : Int32} {xs0 : Int32} {fs1 : Nat} {rs2 : Nat} {xs3 : Int32} : ev F lv jm_Law_law 962 [.retAddr f0, .ref r1, .ref r2, .int x3] [.int xs0, .retAddr fs1, .ref rs2, .int xs3] h = jx_gi F.1 0 fs1 xs0 fun v => ev F lv jm_Law_law 963 [.retAddr f0, .ref r1, .ref r2, .int x3] [.int v, .ref rs2, .int xs3] h := ev_gi rfl rfl rfl rfl
set_option maxRecDepth 50000 in
theorem s_Law_law_963 {F : jx_F} {lv : Nat} {h : jx_H} {f0 : Nat} {r1 : Nat} {r2 : Nat} {x3 : Int32} {xs0 : Int32} {rs1 : Nat} {xs2 : Int32} : ev F lv jm_Law_law 963 [.retAddr f0, .ref r1, .ref r2, .int x3] [.int xs0, .ref rs1, .int xs2] h = ev F lv jm_Law_law 964 [.retAddr f0, .ref r1, .ref r2, .int x3] [.retAddr f0, .int xs0, .ref rs1, .int xs2] h := ev_s rfl rfl rfl rfl
set_option maxRecDepth 50000 in
theorem s_Law_law_964 {F : jx_F} {lv : Nat} {h : jx_H} {f0 : Nat} {r1 : Nat} {r2 : Nat} {x3 : Int32} {fs0 : Nat} {xs1 : Int32} {rs2 : Nat} {xs3 : Int32} : ev F lv jm_Law_law 964 [.retAddr f0, .ref r1, .ref r2, .int x3] [.retAddr fs0, .int xs1, .ref rs2, .int xs3] h = ev F lv jm_Law_law 965 [.retAddr f0, .ref r1, .ref r2, .int x3] [.int x3, .retAddr fs0, .int xs1, .ref rs2, .int xs3] h := ev_s rfl rfl rfl rfl
set_option maxRecDepth 50000 in
theorem s_Law_law_965 {F : jx_F} {lv : Nat} {h : jx_H} {f0 : Nat} {r1 : Nat} {r2 : Nat} {x3 : Int32} {xs0 : Int32} {fs1 : Nat} {xs2 : Int32} {rs3 : Nat} {xs4 : Int32} : ev F lv jm_Law_law 965 [.retAddr f0, .ref r1, .ref r2, .int x3] [.int xs0, .retAddr fs1, .int xs2, .ref rs3, .int xs4] h = ev F lv jm_Law_law 966 [.retAddr f0, .ref r1, .ref r2, .int x3] [.int 2, .int xs0, .retAddr fs1, .int xs2, .ref rs3, .int xs4] h := ev_s rfl rfl rfl rfl
set_option maxRecDepth 50000 in
theorem s_Law_law_966 {F : jx_F} {lv : Nat} {h : jx_H} {f0 : Nat} {r1 : Nat} {r2 : Nat} {x3 : Int32} {xs0 : Int32} {xs1 : Int32} {fs2 : Nat} {xs3 : Int32} {rs4 : Nat} {xs5 : Int32} : ev F lv jm_Law_law 966 [.retAddr f0, .ref r1, .ref r2, .int x3] [.int xs0, .int xs1, .retAddr fs2, .int xs3, .ref rs4, .int xs5] h = ev F lv jm_Law_law 967 [.retAddr f0, .ref r1, .ref r2, .int x3] [.int (xs1 + xs0), .retAddr fs2, .int xs3, .ref rs4, .int xs5] h := ev_s rfl rfl rfl rfl
set_option maxRecDepth 50000 in
theorem s_Law_law_967 {F : jx_F} {lv : Nat} {h : jx_H} {f0 : Nat} {r1 : Nat} {r2 : Nat} {x3 : Int32} {xs0 : Int32} {fs1 : Nat} {xs2 : Int32} {rs3 : Nat} {xs4 : Int32} : ev F lv jm_Law_law 967 [.retAddr f0, .ref r1, .ref r2, .int x3] [.int xs0, .retAddr fs1, .int xs2, .ref rs3, .int xs4] h = jx_gi F.1 0 fs1 xs0 fun v => ev F lv jm_Law_law 968 [.retAddr f0, .ref r1, .ref r2, .int x3] [.int v, .int xs2, .ref rs3, .int xs4] h := ev_gi rfl rfl rfl rfl
set_option maxRecDepth 50000 in
theorem s_Law_law_968 {F : jx_F} {lv : Nat} {h : jx_H} {f0 : Nat} {r1 : Nat} {r2 : Nat} {x3 : Int32} {xs0 : Int32} {xs1 : Int32} {rs2 : Nat} {xs3 : Int32} (hr : jx_rcv F h 6 [.ref rs2, .int xs1, .int xs0] = true) : ev F (lv + 1) jm_Law_law 968 [.retAddr f0, .ref r1, .ref r2, .int x3] [.int xs0, .int xs1, .ref rs2, .int xs3] h = (rn F lv 168 [.ref rs2, .int xs1, .int xs0] h).bind fun q => ev F (lv + 1) jm_Law_law 971 [.retAddr f0, .ref r1, .ref r2, .int x3] (q.1.toList ++ [.int xs3]) q.2 := ev_cR rfl rfl rfl hr
set_option maxRecDepth 50000 in
theorem s_Law_law_971 {F : jx_F} {lv : Nat} {h : jx_H} {f0 : Nat} {r1 : Nat} {r2 : Nat} {x3 : Int32} {xs0 : Int32} {xs1 : Int32} : ev F lv jm_Law_law 971 [.retAddr f0, .ref r1, .ref r2, .int x3] [.int xs0, .int xs1] h = if xs1 = xs0 then ev F lv jm_Law_law 1045 [.retAddr f0, .ref r1, .ref r2, .int x3] [] h else ev F lv jm_Law_law 974 [.retAddr f0, .ref r1, .ref r2, .int x3] [] h := ev_b (off := 74) (b := jx_cmpB .eq xs1 xs0) rfl rfl rfl rfl rfl (by decide)
set_option maxRecDepth 50000 in
theorem s_Law_law_974 {F : jx_F} {lv : Nat} {h : jx_H} {f0 : Nat} {r1 : Nat} {r2 : Nat} {x3 : Int32} : ev F lv jm_Law_law 974 [.retAddr f0, .ref r1, .ref r2, .int x3] [] h = ev F lv jm_Law_law 975 [.retAddr f0, .ref r1, .ref r2, .int x3] [.int 0] h := ev_s rfl rfl rfl rfl
set_option maxRecDepth 50000 in
theorem s_Law_law_975 {F : jx_F} {lv : Nat} {h : jx_H} {f0 : Nat} {r1 : Nat} {r2 : Nat} {x3 : Int32} {xs0 : Int32} (hb : jx_ret1 4 xs0 = true) : ev F lv jm_Law_law 975 [.retAddr f0, .ref r1, .ref r2, .int x3] [.int xs0] h = some (some (.int xs0), h) := ev_rB rfl rfl hb
set_option maxRecDepth 50000 in
theorem s_Law_law_976 {F : jx_F} {lv : Nat} {h : jx_H} {f0 : Nat} {r1 : Nat} {r2 : Nat} {x3 : Int32} : ev F lv jm_Law_law 976 [.retAddr f0, .ref r1, .ref r2, .int x3] [] h = ev F lv jm_Law_law 977 [.retAddr f0, .ref r1, .ref r2, .int x3] [.ref r1] h := ev_s rfl rfl rfl rfl
set_option maxRecDepth 50000 in
theorem s_Law_law_977 {F : jx_F} {lv : Nat} {h : jx_H} {f0 : Nat} {r1 : Nat} {r2 : Nat} {x3 : Int32} {rs0 : Nat} : ev F lv jm_Law_law 977 [.retAddr f0, .ref r1, .ref r2, .int x3] [.ref rs0] h = ev F lv jm_Law_law 978 [.retAddr f0, .ref r1, .ref r2, .int x3] [.retAddr f0, .ref rs0] h := ev_s rfl rfl rfl rfl
set_option maxRecDepth 50000 in
theorem s_Law_law_978 {F : jx_F} {lv : Nat} {h : jx_H} {f0 : Nat} {r1 : Nat} {r2 : Nat} {x3 : Int32} {fs0 : Nat} {rs1 : Nat} : ev F lv jm_Law_law 978 [.retAddr f0, .ref r1, .ref r2, .int x3] [.retAddr fs0, .ref rs1] h = ev F lv jm_Law_law 979 [.retAddr f0, .ref r1, .ref r2, .int x3] [.int x3, .retAddr fs0, .ref rs1] h := ev_s rfl rfl rfl rfl
set_option maxRecDepth 50000 in
theorem s_Law_law_979 {F : jx_F} {lv : Nat} {h : jx_H} {f0 : Nat} {r1 : Nat} {r2 : Nat} {x3 : Int32} {xs0 : Int32} {fs1 : Nat} {rs2 : Nat} : ev F lv jm_Law_law 979 [.retAddr f0, .ref r1, .ref r2, .int x3] [.int xs0, .retAddr fs1, .ref rs2] h = ev F lv jm_Law_law 980 [.retAddr f0, .ref r1, .ref r2, .int x3] [.int 1, .int xs0, .retAddr fs1, .ref rs2] h := ev_s rfl rfl rfl rfl
set_option maxRecDepth 50000 in
theorem s_Law_law_980 {F : jx_F} {lv : Nat} {h : jx_H} {f0 : Nat} {r1 : Nat} {r2 : Nat} {x3 : Int32} {xs0 : Int32} {xs1 : Int32} {fs2 : Nat} {rs3 : Nat} : ev F lv jm_Law_law 980 [.retAddr f0, .ref r1, .ref r2, .int x3] [.int xs0, .int xs1, .retAddr fs2, .ref rs3] h = ev F lv jm_Law_law 981 [.retAddr f0, .ref r1, .ref r2, .int x3] [.int (xs1 + xs0), .retAddr fs2, .ref rs3] h := ev_s rfl rfl rfl rfl
set_option maxRecDepth 50000 in
theorem s_Law_law_981 {F : jx_F} {lv : Nat} {h : jx_H} {f0 : Nat} {r1 : Nat} {r2 : Nat} {x3 : Int32} {xs0 : Int32} {fs1 : Nat} {rs2 : Nat} : ev F lv jm_Law_law 981 [.retAddr f0, .ref r1, .ref r2, .int x3] [.int xs0, .retAddr fs1, .ref rs2] h = jx_gi F.1 0 fs1 xs0 fun v => ev F lv jm_Law_law 982 [.retAddr f0, .ref r1, .ref r2, .int x3] [.int v, .ref rs2] h := ev_gi rfl rfl rfl rfl
set_option maxRecDepth 50000 in
theorem s_Law_law_982 {F : jx_F} {lv : Nat} {h : jx_H} {f0 : Nat} {r1 : Nat} {r2 : Nat} {x3 : Int32} {xs0 : Int32} {rs1 : Nat} (hr : jx_rcv F h 5 [.ref rs1, .int xs0] = true) : ev F (lv + 1) jm_Law_law 982 [.retAddr f0, .ref r1, .ref r2, .int x3] [.int xs0, .ref rs1] h = (rn F lv 91 [.ref rs1, .int xs0] h).bind fun q => ev F (lv + 1) jm_Law_law 985 [.retAddr f0, .ref r1, .ref r2, .int x3] (q.1.toList ++ []) q.2 := ev_cR rfl rfl rfl hr
set_option maxRecDepth 50000 in
theorem s_Law_law_985 {F : jx_F} {lv : Nat} {h : jx_H} {f0 : Nat} {r1 : Nat} {r2 : Nat} {x3 : Int32} {xs0 : Int32} : ev F lv jm_Law_law 985 [.retAddr f0, .ref r1, .ref r2, .int x3] [.int xs0] h = ev F lv jm_Law_law 986 [.retAddr f0, .ref r1, .ref r2, .int x3] [.ref r2, .int xs0] h := ev_s rfl rfl rfl rfl
set_option maxRecDepth 50000 in
theorem s_Law_law_986 {F : jx_F} {lv : Nat} {h : jx_H} {f0 : Nat} {r1 : Nat} {r2 : Nat} {x3 : Int32} {rs0 : Nat} {xs1 : Int32} : ev F lv jm_Law_law 986 [.retAddr f0, .ref r1, .ref r2, .int x3] [.ref rs0, .int xs1] h = ev F lv jm_Law_law 987 [.retAddr f0, .ref r1, .ref r2, .int x3] [.retAddr f0, .ref rs0, .int xs1] h := ev_s rfl rfl rfl rfl
set_option maxRecDepth 50000 in
theorem s_Law_law_987 {F : jx_F} {lv : Nat} {h : jx_H} {f0 : Nat} {r1 : Nat} {r2 : Nat} {x3 : Int32} {fs0 : Nat} {rs1 : Nat} {xs2 : Int32} : ev F lv jm_Law_law 987 [.retAddr f0, .ref r1, .ref r2, .int x3] [.retAddr fs0, .ref rs1, .int xs2] h = ev F lv jm_Law_law 988 [.retAddr f0, .ref r1, .ref r2, .int x3] [.int x3, .retAddr fs0, .ref rs1, .int xs2] h := ev_s rfl rfl rfl rfl
set_option maxRecDepth 50000 in
theorem s_Law_law_988 {F : jx_F} {lv : Nat} {h : jx_H} {f0 : Nat} {r1 : Nat} {r2 : Nat} {x3 : Int32} {xs0 : Int32} {fs1 : Nat} {rs2 : Nat} {xs3 : Int32} : ev F lv jm_Law_law 988 [.retAddr f0, .ref r1, .ref r2, .int x3] [.int xs0, .retAddr fs1, .ref rs2, .int xs3] h = ev F lv jm_Law_law 989 [.retAddr f0, .ref r1, .ref r2, .int x3] [.int 1, .int xs0, .retAddr fs1, .ref rs2, .int xs3] h := ev_s rfl rfl rfl rfl
set_option maxRecDepth 50000 in
theorem s_Law_law_989 {F : jx_F} {lv : Nat} {h : jx_H} {f0 : Nat} {r1 : Nat} {r2 : Nat} {x3 : Int32} {xs0 : Int32} {xs1 : Int32} {fs2 : Nat} {rs3 : Nat} {xs4 : Int32} : ev F lv jm_Law_law 989 [.retAddr f0, .ref r1, .ref r2, .int x3] [.int xs0, .int xs1, .retAddr fs2, .ref rs3, .int xs4] h = ev F lv jm_Law_law 990 [.retAddr f0, .ref r1, .ref r2, .int x3] [.int (xs1 + xs0), .retAddr fs2, .ref rs3, .int xs4] h := ev_s rfl rfl rfl rfl
set_option maxRecDepth 50000 in
theorem s_Law_law_990 {F : jx_F} {lv : Nat} {h : jx_H} {f0 : Nat} {r1 : Nat} {r2 : Nat} {x3 : Int32} {xs0 : Int32} {fs1 : Nat} {rs2 : Nat} {xs3 : Int32} : ev F lv jm_Law_law 990 [.retAddr f0, .ref r1, .ref r2, .int x3] [.int xs0, .retAddr fs1, .ref rs2, .int xs3] h = jx_gi F.1 0 fs1 xs0 fun v => ev F lv jm_Law_law 991 [.retAddr f0, .ref r1, .ref r2, .int x3] [.int v, .ref rs2, .int xs3] h := ev_gi rfl rfl rfl rfl
set_option maxRecDepth 50000 in
theorem s_Law_law_991 {F : jx_F} {lv : Nat} {h : jx_H} {f0 : Nat} {r1 : Nat} {r2 : Nat} {x3 : Int32} {xs0 : Int32} {rs1 : Nat} {xs2 : Int32} (hr : jx_rcv F h 6 [.ref rs1, .int xs0] = true) : ev F (lv + 1) jm_Law_law 991 [.retAddr f0, .ref r1, .ref r2, .int x3] [.int xs0, .ref rs1, .int xs2] h = (rn F lv 169 [.ref rs1, .int xs0] h).bind fun q => ev F (lv + 1) jm_Law_law 994 [.retAddr f0, .ref r1, .ref r2, .int x3] (q.1.toList ++ [.int xs2]) q.2 := ev_cR rfl rfl rfl hr
set_option maxRecDepth 50000 in
theorem s_Law_law_994 {F : jx_F} {lv : Nat} {h : jx_H} {f0 : Nat} {r1 : Nat} {r2 : Nat} {x3 : Int32} {xs0 : Int32} {xs1 : Int32} : ev F lv jm_Law_law 994 [.retAddr f0, .ref r1, .ref r2, .int x3] [.int xs0, .int xs1] h = if xs1 = xs0 then ev F lv jm_Law_law 1045 [.retAddr f0, .ref r1, .ref r2, .int x3] [] h else ev F lv jm_Law_law 997 [.retAddr f0, .ref r1, .ref r2, .int x3] [] h := ev_b (off := 51) (b := jx_cmpB .eq xs1 xs0) rfl rfl rfl rfl rfl (by decide)
set_option maxRecDepth 50000 in
theorem s_Law_law_997 {F : jx_F} {lv : Nat} {h : jx_H} {f0 : Nat} {r1 : Nat} {r2 : Nat} {x3 : Int32} : ev F lv jm_Law_law 997 [.retAddr f0, .ref r1, .ref r2, .int x3] [] h = ev F lv jm_Law_law 998 [.retAddr f0, .ref r1, .ref r2, .int x3] [.int 0] h := ev_s rfl rfl rfl rfl
set_option maxRecDepth 50000 in
theorem s_Law_law_998 {F : jx_F} {lv : Nat} {h : jx_H} {f0 : Nat} {r1 : Nat} {r2 : Nat} {x3 : Int32} {xs0 : Int32} (hb : jx_ret1 4 xs0 = true) : ev F lv jm_Law_law 998 [.retAddr f0, .ref r1, .ref r2, .int x3] [.int xs0] h = some (some (.int xs0), h) := ev_rB rfl rfl hb
set_option maxRecDepth 50000 in
theorem s_Law_law_999 {F : jx_F} {lv : Nat} {h : jx_H} {f0 : Nat} {r1 : Nat} {r2 : Nat} {x3 : Int32} : ev F lv jm_Law_law 999 [.retAddr f0, .ref r1, .ref r2, .int x3] [] h = ev F lv jm_Law_law 1000 [.retAddr f0, .ref r1, .ref r2, .int x3] [.ref r1] h := ev_s rfl rfl rfl rfl
set_option maxRecDepth 50000 in
theorem s_Law_law_1000 {F : jx_F} {lv : Nat} {h : jx_H} {f0 : Nat} {r1 : Nat} {r2 : Nat} {x3 : Int32} {rs0 : Nat} : ev F lv jm_Law_law 1000 [.retAddr f0, .ref r1, .ref r2, .int x3] [.ref rs0] h = ev F lv jm_Law_law 1001 [.retAddr f0, .ref r1, .ref r2, .int x3] [.retAddr f0, .ref rs0] h := ev_s rfl rfl rfl rfl
set_option maxRecDepth 50000 in
theorem s_Law_law_1001 {F : jx_F} {lv : Nat} {h : jx_H} {f0 : Nat} {r1 : Nat} {r2 : Nat} {x3 : Int32} {fs0 : Nat} {rs1 : Nat} : ev F lv jm_Law_law 1001 [.retAddr f0, .ref r1, .ref r2, .int x3] [.retAddr fs0, .ref rs1] h = ev F lv jm_Law_law 1002 [.retAddr f0, .ref r1, .ref r2, .int x3] [.int x3, .retAddr fs0, .ref rs1] h := ev_s rfl rfl rfl rfl
set_option maxRecDepth 50000 in
theorem s_Law_law_1002 {F : jx_F} {lv : Nat} {h : jx_H} {f0 : Nat} {r1 : Nat} {r2 : Nat} {x3 : Int32} {xs0 : Int32} {fs1 : Nat} {rs2 : Nat} : ev F lv jm_Law_law 1002 [.retAddr f0, .ref r1, .ref r2, .int x3] [.int xs0, .retAddr fs1, .ref rs2] h = ev F lv jm_Law_law 1003 [.retAddr f0, .ref r1, .ref r2, .int x3] [.int 1, .int xs0, .retAddr fs1, .ref rs2] h := ev_s rfl rfl rfl rfl
set_option maxRecDepth 50000 in
theorem s_Law_law_1003 {F : jx_F} {lv : Nat} {h : jx_H} {f0 : Nat} {r1 : Nat} {r2 : Nat} {x3 : Int32} {xs0 : Int32} {xs1 : Int32} {fs2 : Nat} {rs3 : Nat} : ev F lv jm_Law_law 1003 [.retAddr f0, .ref r1, .ref r2, .int x3] [.int xs0, .int xs1, .retAddr fs2, .ref rs3] h = ev F lv jm_Law_law 1004 [.retAddr f0, .ref r1, .ref r2, .int x3] [.int (xs1 + xs0), .retAddr fs2, .ref rs3] h := ev_s rfl rfl rfl rfl
set_option maxRecDepth 50000 in
theorem s_Law_law_1004 {F : jx_F} {lv : Nat} {h : jx_H} {f0 : Nat} {r1 : Nat} {r2 : Nat} {x3 : Int32} {xs0 : Int32} {fs1 : Nat} {rs2 : Nat} : ev F lv jm_Law_law 1004 [.retAddr f0, .ref r1, .ref r2, .int x3] [.int xs0, .retAddr fs1, .ref rs2] h = jx_gi F.1 0 fs1 xs0 fun v => ev F lv jm_Law_law 1005 [.retAddr f0, .ref r1, .ref r2, .int x3] [.int v, .ref rs2] h := ev_gi rfl rfl rfl rfl
set_option maxRecDepth 50000 in
theorem s_Law_law_1005 {F : jx_F} {lv : Nat} {h : jx_H} {f0 : Nat} {r1 : Nat} {r2 : Nat} {x3 : Int32} {xs0 : Int32} {rs1 : Nat} (hr : jx_rcv F h 5 [.ref rs1, .int xs0] = true) : ev F (lv + 1) jm_Law_law 1005 [.retAddr f0, .ref r1, .ref r2, .int x3] [.int xs0, .ref rs1] h = (rn F lv 92 [.ref rs1, .int xs0] h).bind fun q => ev F (lv + 1) jm_Law_law 1008 [.retAddr f0, .ref r1, .ref r2, .int x3] (q.1.toList ++ []) q.2 := ev_cR rfl rfl rfl hr
set_option maxRecDepth 50000 in
theorem s_Law_law_1008 {F : jx_F} {lv : Nat} {h : jx_H} {f0 : Nat} {r1 : Nat} {r2 : Nat} {x3 : Int32} {xs0 : Int32} : ev F lv jm_Law_law 1008 [.retAddr f0, .ref r1, .ref r2, .int x3] [.int xs0] h = ev F lv jm_Law_law 1009 [.retAddr f0, .ref r1, .ref r2, .int x3] [.ref r2, .int xs0] h := ev_s rfl rfl rfl rfl
set_option maxRecDepth 50000 in
theorem s_Law_law_1009 {F : jx_F} {lv : Nat} {h : jx_H} {f0 : Nat} {r1 : Nat} {r2 : Nat} {x3 : Int32} {rs0 : Nat} {xs1 : Int32} : ev F lv jm_Law_law 1009 [.retAddr f0, .ref r1, .ref r2, .int x3] [.ref rs0, .int xs1] h = ev F lv jm_Law_law 1010 [.retAddr f0, .ref r1, .ref r2, .int x3] [.retAddr f0, .ref rs0, .int xs1] h := ev_s rfl rfl rfl rfl
set_option maxRecDepth 50000 in
theorem s_Law_law_1010 {F : jx_F} {lv : Nat} {h : jx_H} {f0 : Nat} {r1 : Nat} {r2 : Nat} {x3 : Int32} {fs0 : Nat} {rs1 : Nat} {xs2 : Int32} : ev F lv jm_Law_law 1010 [.retAddr f0, .ref r1, .ref r2, .int x3] [.retAddr fs0, .ref rs1, .int xs2] h = ev F lv jm_Law_law 1011 [.retAddr f0, .ref r1, .ref r2, .int x3] [.int x3, .retAddr fs0, .ref rs1, .int xs2] h := ev_s rfl rfl rfl rfl
set_option maxRecDepth 50000 in
theorem s_Law_law_1011 {F : jx_F} {lv : Nat} {h : jx_H} {f0 : Nat} {r1 : Nat} {r2 : Nat} {x3 : Int32} {xs0 : Int32} {fs1 : Nat} {rs2 : Nat} {xs3 : Int32} : ev F lv jm_Law_law 1011 [.retAddr f0, .ref r1, .ref r2, .int x3] [.int xs0, .retAddr fs1, .ref rs2, .int xs3] h = ev F lv jm_Law_law 1012 [.retAddr f0, .ref r1, .ref r2, .int x3] [.int 1, .int xs0, .retAddr fs1, .ref rs2, .int xs3] h := ev_s rfl rfl rfl rfl
set_option maxRecDepth 50000 in
theorem s_Law_law_1012 {F : jx_F} {lv : Nat} {h : jx_H} {f0 : Nat} {r1 : Nat} {r2 : Nat} {x3 : Int32} {xs0 : Int32} {xs1 : Int32} {fs2 : Nat} {rs3 : Nat} {xs4 : Int32} : ev F lv jm_Law_law 1012 [.retAddr f0, .ref r1, .ref r2, .int x3] [.int xs0, .int xs1, .retAddr fs2, .ref rs3, .int xs4] h = ev F lv jm_Law_law 1013 [.retAddr f0, .ref r1, .ref r2, .int x3] [.int (xs1 + xs0), .retAddr fs2, .ref rs3, .int xs4] h := ev_s rfl rfl rfl rfl
set_option maxRecDepth 50000 in
theorem s_Law_law_1013 {F : jx_F} {lv : Nat} {h : jx_H} {f0 : Nat} {r1 : Nat} {r2 : Nat} {x3 : Int32} {xs0 : Int32} {fs1 : Nat} {rs2 : Nat} {xs3 : Int32} : ev F lv jm_Law_law 1013 [.retAddr f0, .ref r1, .ref r2, .int x3] [.int xs0, .retAddr fs1, .ref rs2, .int xs3] h = jx_gi F.1 0 fs1 xs0 fun v => ev F lv jm_Law_law 1014 [.retAddr f0, .ref r1, .ref r2, .int x3] [.int v, .ref rs2, .int xs3] h := ev_gi rfl rfl rfl rfl
set_option maxRecDepth 50000 in
theorem s_Law_law_1014 {F : jx_F} {lv : Nat} {h : jx_H} {f0 : Nat} {r1 : Nat} {r2 : Nat} {x3 : Int32} {xs0 : Int32} {rs1 : Nat} {xs2 : Int32} (hr : jx_rcv F h 6 [.ref rs1, .int xs0] = true) : ev F (lv + 1) jm_Law_law 1014 [.retAddr f0, .ref r1, .ref r2, .int x3] [.int xs0, .ref rs1, .int xs2] h = (rn F lv 170 [.ref rs1, .int xs0] h).bind fun q => ev F (lv + 1) jm_Law_law 1017 [.retAddr f0, .ref r1, .ref r2, .int x3] (q.1.toList ++ [.int xs2]) q.2 := ev_cR rfl rfl rfl hr
set_option maxRecDepth 50000 in
theorem s_Law_law_1017 {F : jx_F} {lv : Nat} {h : jx_H} {f0 : Nat} {r1 : Nat} {r2 : Nat} {x3 : Int32} {xs0 : Int32} {xs1 : Int32} : ev F lv jm_Law_law 1017 [.retAddr f0, .ref r1, .ref r2, .int x3] [.int xs0, .int xs1] h = if xs1 = xs0 then ev F lv jm_Law_law 1045 [.retAddr f0, .ref r1, .ref r2, .int x3] [] h else ev F lv jm_Law_law 1020 [.retAddr f0, .ref r1, .ref r2, .int x3] [] h := ev_b (off := 28) (b := jx_cmpB .eq xs1 xs0) rfl rfl rfl rfl rfl (by decide)
set_option maxRecDepth 50000 in
theorem s_Law_law_1020 {F : jx_F} {lv : Nat} {h : jx_H} {f0 : Nat} {r1 : Nat} {r2 : Nat} {x3 : Int32} : ev F lv jm_Law_law 1020 [.retAddr f0, .ref r1, .ref r2, .int x3] [] h = ev F lv jm_Law_law 1021 [.retAddr f0, .ref r1, .ref r2, .int x3] [.int 0] h := ev_s rfl rfl rfl rfl
set_option maxRecDepth 50000 in
theorem s_Law_law_1021 {F : jx_F} {lv : Nat} {h : jx_H} {f0 : Nat} {r1 : Nat} {r2 : Nat} {x3 : Int32} {xs0 : Int32} (hb : jx_ret1 4 xs0 = true) : ev F lv jm_Law_law 1021 [.retAddr f0, .ref r1, .ref r2, .int x3] [.int xs0] h = some (some (.int xs0), h) := ev_rB rfl rfl hb
set_option maxRecDepth 50000 in
theorem s_Law_law_1022 {F : jx_F} {lv : Nat} {h : jx_H} {f0 : Nat} {r1 : Nat} {r2 : Nat} {x3 : Int32} : ev F lv jm_Law_law 1022 [.retAddr f0, .ref r1, .ref r2, .int x3] [] h = ev F lv jm_Law_law 1023 [.retAddr f0, .ref r1, .ref r2, .int x3] [.ref r1] h := ev_s rfl rfl rfl rfl
set_option maxRecDepth 50000 in
theorem s_Law_law_1023 {F : jx_F} {lv : Nat} {h : jx_H} {f0 : Nat} {r1 : Nat} {r2 : Nat} {x3 : Int32} {rs0 : Nat} : ev F lv jm_Law_law 1023 [.retAddr f0, .ref r1, .ref r2, .int x3] [.ref rs0] h = ev F lv jm_Law_law 1024 [.retAddr f0, .ref r1, .ref r2, .int x3] [.retAddr f0, .ref rs0] h := ev_s rfl rfl rfl rfl
set_option maxRecDepth 50000 in
theorem s_Law_law_1024 {F : jx_F} {lv : Nat} {h : jx_H} {f0 : Nat} {r1 : Nat} {r2 : Nat} {x3 : Int32} {fs0 : Nat} {rs1 : Nat} : ev F lv jm_Law_law 1024 [.retAddr f0, .ref r1, .ref r2, .int x3] [.retAddr fs0, .ref rs1] h = ev F lv jm_Law_law 1025 [.retAddr f0, .ref r1, .ref r2, .int x3] [.int x3, .retAddr fs0, .ref rs1] h := ev_s rfl rfl rfl rfl
set_option maxRecDepth 50000 in
theorem s_Law_law_1025 {F : jx_F} {lv : Nat} {h : jx_H} {f0 : Nat} {r1 : Nat} {r2 : Nat} {x3 : Int32} {xs0 : Int32} {fs1 : Nat} {rs2 : Nat} : ev F lv jm_Law_law 1025 [.retAddr f0, .ref r1, .ref r2, .int x3] [.int xs0, .retAddr fs1, .ref rs2] h = ev F lv jm_Law_law 1026 [.retAddr f0, .ref r1, .ref r2, .int x3] [.int 1, .int xs0, .retAddr fs1, .ref rs2] h := ev_s rfl rfl rfl rfl
set_option maxRecDepth 50000 in
theorem s_Law_law_1026 {F : jx_F} {lv : Nat} {h : jx_H} {f0 : Nat} {r1 : Nat} {r2 : Nat} {x3 : Int32} {xs0 : Int32} {xs1 : Int32} {fs2 : Nat} {rs3 : Nat} : ev F lv jm_Law_law 1026 [.retAddr f0, .ref r1, .ref r2, .int x3] [.int xs0, .int xs1, .retAddr fs2, .ref rs3] h = ev F lv jm_Law_law 1027 [.retAddr f0, .ref r1, .ref r2, .int x3] [.int (xs1 + xs0), .retAddr fs2, .ref rs3] h := ev_s rfl rfl rfl rfl
set_option maxRecDepth 50000 in
theorem s_Law_law_1027 {F : jx_F} {lv : Nat} {h : jx_H} {f0 : Nat} {r1 : Nat} {r2 : Nat} {x3 : Int32} {xs0 : Int32} {fs1 : Nat} {rs2 : Nat} : ev F lv jm_Law_law 1027 [.retAddr f0, .ref r1, .ref r2, .int x3] [.int xs0, .retAddr fs1, .ref rs2] h = jx_gi F.1 0 fs1 xs0 fun v => ev F lv jm_Law_law 1028 [.retAddr f0, .ref r1, .ref r2, .int x3] [.int v, .ref rs2] h := ev_gi rfl rfl rfl rfl
set_option maxRecDepth 50000 in
theorem s_Law_law_1028 {F : jx_F} {lv : Nat} {h : jx_H} {f0 : Nat} {r1 : Nat} {r2 : Nat} {x3 : Int32} {xs0 : Int32} {rs1 : Nat} (hr : jx_rcv F h 5 [.ref rs1, .int xs0] = true) : ev F (lv + 1) jm_Law_law 1028 [.retAddr f0, .ref r1, .ref r2, .int x3] [.int xs0, .ref rs1] h = (rn F lv 93 [.ref rs1, .int xs0] h).bind fun q => ev F (lv + 1) jm_Law_law 1031 [.retAddr f0, .ref r1, .ref r2, .int x3] (q.1.toList ++ []) q.2 := ev_cR rfl rfl rfl hr
set_option maxRecDepth 50000 in
theorem s_Law_law_1031 {F : jx_F} {lv : Nat} {h : jx_H} {f0 : Nat} {r1 : Nat} {r2 : Nat} {x3 : Int32} {xs0 : Int32} : ev F lv jm_Law_law 1031 [.retAddr f0, .ref r1, .ref r2, .int x3] [.int xs0] h = ev F lv jm_Law_law 1032 [.retAddr f0, .ref r1, .ref r2, .int x3] [.ref r2, .int xs0] h := ev_s rfl rfl rfl rfl
set_option maxRecDepth 50000 in
theorem s_Law_law_1032 {F : jx_F} {lv : Nat} {h : jx_H} {f0 : Nat} {r1 : Nat} {r2 : Nat} {x3 : Int32} {rs0 : Nat} {xs1 : Int32} : ev F lv jm_Law_law 1032 [.retAddr f0, .ref r1, .ref r2, .int x3] [.ref rs0, .int xs1] h = ev F lv jm_Law_law 1033 [.retAddr f0, .ref r1, .ref r2, .int x3] [.retAddr f0, .ref rs0, .int xs1] h := ev_s rfl rfl rfl rfl
set_option maxRecDepth 50000 in
theorem s_Law_law_1033 {F : jx_F} {lv : Nat} {h : jx_H} {f0 : Nat} {r1 : Nat} {r2 : Nat} {x3 : Int32} {fs0 : Nat} {rs1 : Nat} {xs2 : Int32} : ev F lv jm_Law_law 1033 [.retAddr f0, .ref r1, .ref r2, .int x3] [.retAddr fs0, .ref rs1, .int xs2] h = ev F lv jm_Law_law 1034 [.retAddr f0, .ref r1, .ref r2, .int x3] [.int x3, .retAddr fs0, .ref rs1, .int xs2] h := ev_s rfl rfl rfl rfl
set_option maxRecDepth 50000 in
theorem s_Law_law_1034 {F : jx_F} {lv : Nat} {h : jx_H} {f0 : Nat} {r1 : Nat} {r2 : Nat} {x3 : Int32} {xs0 : Int32} {fs1 : Nat} {rs2 : Nat} {xs3 : Int32} : ev F lv jm_Law_law 1034 [.retAddr f0, .ref r1, .ref r2, .int x3] [.int xs0, .retAddr fs1, .ref rs2, .int xs3] h = ev F lv jm_Law_law 1035 [.retAddr f0, .ref r1, .ref r2, .int x3] [.int 1, .int xs0, .retAddr fs1, .ref rs2, .int xs3] h := ev_s rfl rfl rfl rfl
set_option maxRecDepth 50000 in
theorem s_Law_law_1035 {F : jx_F} {lv : Nat} {h : jx_H} {f0 : Nat} {r1 : Nat} {r2 : Nat} {x3 : Int32} {xs0 : Int32} {xs1 : Int32} {fs2 : Nat} {rs3 : Nat} {xs4 : Int32} : ev F lv jm_Law_law 1035 [.retAddr f0, .ref r1, .ref r2, .int x3] [.int xs0, .int xs1, .retAddr fs2, .ref rs3, .int xs4] h = ev F lv jm_Law_law 1036 [.retAddr f0, .ref r1, .ref r2, .int x3] [.int (xs1 + xs0), .retAddr fs2, .ref rs3, .int xs4] h := ev_s rfl rfl rfl rfl
set_option maxRecDepth 50000 in
theorem s_Law_law_1036 {F : jx_F} {lv : Nat} {h : jx_H} {f0 : Nat} {r1 : Nat} {r2 : Nat} {x3 : Int32} {xs0 : Int32} {fs1 : Nat} {rs2 : Nat} {xs3 : Int32} : ev F lv jm_Law_law 1036 [.retAddr f0, .ref r1, .ref r2, .int x3] [.int xs0, .retAddr fs1, .ref rs2, .int xs3] h = jx_gi F.1 0 fs1 xs0 fun v => ev F lv jm_Law_law 1037 [.retAddr f0, .ref r1, .ref r2, .int x3] [.int v, .ref rs2, .int xs3] h := ev_gi rfl rfl rfl rfl
set_option maxRecDepth 50000 in
theorem s_Law_law_1037 {F : jx_F} {lv : Nat} {h : jx_H} {f0 : Nat} {r1 : Nat} {r2 : Nat} {x3 : Int32} {xs0 : Int32} {rs1 : Nat} {xs2 : Int32} (hr : jx_rcv F h 6 [.ref rs1, .int xs0] = true) : ev F (lv + 1) jm_Law_law 1037 [.retAddr f0, .ref r1, .ref r2, .int x3] [.int xs0, .ref rs1, .int xs2] h = (rn F lv 173 [.ref rs1, .int xs0] h).bind fun q => ev F (lv + 1) jm_Law_law 1040 [.retAddr f0, .ref r1, .ref r2, .int x3] (q.1.toList ++ [.int xs2]) q.2 := ev_cR rfl rfl rfl hr
set_option maxRecDepth 50000 in
theorem s_Law_law_1040 {F : jx_F} {lv : Nat} {h : jx_H} {f0 : Nat} {r1 : Nat} {r2 : Nat} {x3 : Int32} {xs0 : Int32} {xs1 : Int32} : ev F lv jm_Law_law 1040 [.retAddr f0, .ref r1, .ref r2, .int x3] [.int xs0, .int xs1] h = if xs1 = xs0 then ev F lv jm_Law_law 1045 [.retAddr f0, .ref r1, .ref r2, .int x3] [] h else ev F lv jm_Law_law 1043 [.retAddr f0, .ref r1, .ref r2, .int x3] [] h := ev_b (off := 5) (b := jx_cmpB .eq xs1 xs0) rfl rfl rfl rfl rfl (by decide)
set_option maxRecDepth 50000 in
theorem s_Law_law_1043 {F : jx_F} {lv : Nat} {h : jx_H} {f0 : Nat} {r1 : Nat} {r2 : Nat} {x3 : Int32} : ev F lv jm_Law_law 1043 [.retAddr f0, .ref r1, .ref r2, .int x3] [] h = ev F lv jm_Law_law 1044 [.retAddr f0, .ref r1, .ref r2, .int x3] [.int 0] h := ev_s rfl rfl rfl rfl
set_option maxRecDepth 50000 in
theorem s_Law_law_1044 {F : jx_F} {lv : Nat} {h : jx_H} {f0 : Nat} {r1 : Nat} {r2 : Nat} {x3 : Int32} {xs0 : Int32} (hb : jx_ret1 4 xs0 = true) : ev F lv jm_Law_law 1044 [.retAddr f0, .ref r1, .ref r2, .int x3] [.int xs0] h = some (some (.int xs0), h) := ev_rB rfl rfl hb
set_option maxRecDepth 50000 in
theorem s_Law_law_1045 {F : jx_F} {lv : Nat} {h : jx_H} {f0 : Nat} {r1 : Nat} {r2 : Nat} {x3 : Int32} : ev F lv jm_Law_law 1045 [.retAddr f0, .ref r1, .ref r2, .int x3] [] h = ev F lv jm_Law_law 1048 [.retAddr f0, .ref r1, .ref r2, .int (x3 + 6)] [] h := ev_s rfl rfl rfl rfl
set_option maxRecDepth 50000 in
theorem s_Law_law_1048 {F : jx_F} {lv : Nat} {h : jx_H} {f0 : Nat} {r1 : Nat} {r2 : Nat} {x3 : Int32} : ev F lv jm_Law_law 1048 [.retAddr f0, .ref r1, .ref r2, .int x3] [] h = ev F lv jm_Law_law 18 [.retAddr f0, .ref r1, .ref r2, .int x3] [] h := ev_s rfl rfl rfl rfl
set_option maxRecDepth 50000 in
theorem s_Law_law_1051 {F : jx_F} {lv : Nat} {h : jx_H} {f0 : Nat} {r1 : Nat} {r2 : Nat} {x3 : Int32} : ev F lv jm_Law_law 1051 [.retAddr f0, .ref r1, .ref r2, .int x3] [] h = ev F lv jm_Law_law 1052 [.retAddr f0, .ref r1, .ref r2, .int x3] [.int 1] h := ev_s rfl rfl rfl rfl
set_option maxRecDepth 50000 in
theorem s_Law_law_1052 {F : jx_F} {lv : Nat} {h : jx_H} {f0 : Nat} {r1 : Nat} {r2 : Nat} {x3 : Int32} {xs0 : Int32} (hb : jx_ret1 4 xs0 = true) : ev F lv jm_Law_law 1052 [.retAddr f0, .ref r1, .ref r2, .int x3] [.int xs0] h = some (some (.int xs0), h) := ev_rB rfl rfl hb
