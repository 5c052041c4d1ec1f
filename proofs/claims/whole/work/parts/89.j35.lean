/-! ===== the law's loop ===== -/
section Law
variable {nn : Nat} {xs : Nat → Int32} {fm : Value} {I : Nat → Nat → Int32} {J : Nat → Nat → Int64}
theorem fo_len0 {α : Type} {k : Int32 → Option α} : jx_lenF (jx_fo nn xs fm).1 0 k = k (nI nn) := rfl
theorem fo_gi0 {α : Type} {i : Int32} {k : Int32 → Option α} : jx_gi (jx_fo nn xs fm).1 0 0 i k = jx_at i nn (k (xs i.toNatClampNeg)) := rfl
theorem fo_g {α : Type} {i : Nat} {k : Int32 → Option α} (hn : nn ≤ 3072) (hi : i < nn) : jx_gi (jx_fo nn xs fm).1 0 0 (nI i) k = k (xs i) := by
  rw [fo_gi0, at_in hi (by omega), nI_clamp (by omega)]
theorem nI_2 (i : Nat) : nI i + 2 = nI (i + 2) := nI_add i 2
theorem nI_3 (i : Nat) : nI i + 3 = nI (i + 3) := nI_add i 3
theorem nI_4 (i : Nat) : nI i + 4 = nI (i + 4) := nI_add i 4
theorem nI_5 (i : Nat) : nI i + 5 = nI (i + 5) := nI_add i 5
theorem nI_6 (i : Nat) : nI i + 6 = nI (i + 6) := nI_add i 6
/-- one call more -/
def LawS (nn : Nat) (xs : Nat → Int32) (fm : Value) (I : Nat → Nat → Int32) (J : Nat → Nat → Int64) (i pc : Nat) : Prop := ∃ I' J', Inv I' J' ∧ ev (jx_fo nn xs fm) 11 jm_Law_law pc [.retAddr 0, .ref 0, .ref 73, .int (nI i)] [] (HH I J) = ev (jx_fo nn xs fm) 11 jm_Law_law 18 [.retAddr 0, .ref 0, .ref 73, .int (nI (i + 6))] [] (HH I' J')
theorem law_write {i : Nat} (h : Inv I J) (hm : fm = .null ∨ ∃ k, fm = .retAddr k) (hn : nn ≤ 3072) (hi : i + 6 ≤ nn) : LawS nn xs fm I J i 172 := by
  obtain ⟨y, I1, I2, J1, r1, r2, hv⟩ := st_write (lv := 0) (F := jx_fo nn xs fm) h (xs (i + 1))
  have r1 : rn (jx_fo nn xs fm) 10 63 _ _ = _ := r1
  have r2 : rn (jx_fo nn xs fm) 10 107 _ _ = _ := r2
  refine ⟨I2, J1, hv, ?_⟩
  simp only [s_Law_law_172, s_Law_law_173, s_Law_law_174, s_Law_law_175, s_Law_law_176, s_Law_law_177, s_Law_law_178 rcv_0, s_Law_law_181, s_Law_law_182, s_Law_law_183, s_Law_law_184, s_Law_law_185, s_Law_law_186, s_Law_law_187 rcv_73, s_Law_law_190, r1, r2, Option.bind_some, Option.toList_some, List.cons_append, List.nil_append, fo_g hn (show i + 1 < nn by omega), nI_1, if_true, s_Law_law_1045, s_Law_law_1048, nI_6]
theorem law_erase {i : Nat} (h : Inv I J) (hm : fm = .null ∨ ∃ k, fm = .retAddr k) (hn : nn ≤ 3072) (hi : i + 6 ≤ nn) : LawS nn xs fm I J i 195 := by
  obtain ⟨y, I1, I2, J1, r1, r2, hv⟩ := st_erase (lv := 0) (F := jx_fo nn xs fm) h 
  have r1 : rn (jx_fo nn xs fm) 10 64 _ _ = _ := r1
  have r2 : rn (jx_fo nn xs fm) 10 108 _ _ = _ := r2
  refine ⟨I2, J1, hv, ?_⟩
  simp only [s_Law_law_195, s_Law_law_196 rcv_0, s_Law_law_199, s_Law_law_200 rcv_73, s_Law_law_203, r1, r2, Option.bind_some, Option.toList_some, List.cons_append, List.nil_append, if_true, s_Law_law_1045, s_Law_law_1048, nI_6]
theorem law_fault {i : Nat} (h : Inv I J) (hm : fm = .null ∨ ∃ k, fm = .retAddr k) (hn : nn ≤ 3072) (hi : i + 6 ≤ nn) : LawS nn xs fm I J i 208 := by
  obtain ⟨y, I1, I2, J1, r1, r2, hv⟩ := st_fault (lv := 0) (nn := nn) (xs := xs) (fm := fm) h hm 
  have r1 : rn (jx_fo nn xs fm) 10 65 _ _ = _ := r1
  have r2 : rn (jx_fo nn xs fm) 10 121 _ _ = _ := r2
  refine ⟨I2, J1, hv, ?_⟩
  simp only [s_Law_law_208, s_Law_law_209 rcv_0, s_Law_law_212, s_Law_law_213 rcv_73, s_Law_law_216, r1, r2, Option.bind_some, Option.toList_some, List.cons_append, List.nil_append, if_true, s_Law_law_1045, s_Law_law_1048, nI_6]
theorem law_army {i : Nat} (h : Inv I J) (hm : fm = .null ∨ ∃ k, fm = .retAddr k) (hn : nn ≤ 3072) (hi : i + 6 ≤ nn) : LawS nn xs fm I J i 221 := by
  obtain ⟨y, I1, I2, J1, r1, r2, hv⟩ := st_army (lv := 0) (nn := nn) (xs := xs) (fm := fm) h hm 
  have r1 : rn (jx_fo nn xs fm) 10 66 _ _ = _ := r1
  have r2 : rn (jx_fo nn xs fm) 10 123 _ _ = _ := r2
  refine ⟨I2, J1, hv, ?_⟩
  simp only [s_Law_law_221, s_Law_law_222 rcv_0, s_Law_law_225, s_Law_law_226 rcv_73, s_Law_law_229, r1, r2, Option.bind_some, Option.toList_some, List.cons_append, List.nil_append, if_true, s_Law_law_1045, s_Law_law_1048, nI_6]
theorem law_man {i : Nat} (h : Inv I J) (hm : fm = .null ∨ ∃ k, fm = .retAddr k) (hn : nn ≤ 3072) (hi : i + 6 ≤ nn) : LawS nn xs fm I J i 234 := by
  obtain ⟨y, I1, I2, J1, r1, r2, hv⟩ := st_man (lv := 0) (F := jx_fo nn xs fm) h (xs (i + 1)) (xs (i + 2))
  have r1 : rn (jx_fo nn xs fm) 10 67 _ _ = _ := r1
  have r2 : rn (jx_fo nn xs fm) 10 134 _ _ = _ := r2
  refine ⟨I2, J1, hv, ?_⟩
  simp only [s_Law_law_234, s_Law_law_235, s_Law_law_236, s_Law_law_237, s_Law_law_238, s_Law_law_239, s_Law_law_240, s_Law_law_241, s_Law_law_242, s_Law_law_243, s_Law_law_244, s_Law_law_245 rcv_0, s_Law_law_248, s_Law_law_249, s_Law_law_250, s_Law_law_251, s_Law_law_252, s_Law_law_253, s_Law_law_254, s_Law_law_255, s_Law_law_256, s_Law_law_257, s_Law_law_258, s_Law_law_259 rcv_73, s_Law_law_262, r1, r2, Option.bind_some, Option.toList_some, List.cons_append, List.nil_append, fo_g hn (show i + 1 < nn by omega), fo_g hn (show i + 2 < nn by omega), nI_1, nI_2, if_true, s_Law_law_1045, s_Law_law_1048, nI_6]
theorem law_as {i : Nat} (h : Inv I J) (hm : fm = .null ∨ ∃ k, fm = .retAddr k) (hn : nn ≤ 3072) (hi : i + 6 ≤ nn) : LawS nn xs fm I J i 267 := by
  obtain ⟨y, I1, I2, J1, r1, r2, hv⟩ := st_as (lv := 0) (nn := nn) (xs := xs) (fm := fm) h (xs (i + 1)) (xs (i + 2))
  have r1 : rn (jx_fo nn xs fm) 10 68 _ _ = _ := r1
  have r2 : rn (jx_fo nn xs fm) 10 135 _ _ = _ := r2
  refine ⟨I2, J1, hv, ?_⟩
  simp only [s_Law_law_267, s_Law_law_268, s_Law_law_269, s_Law_law_270, s_Law_law_271, s_Law_law_272, s_Law_law_273, s_Law_law_274, s_Law_law_275, s_Law_law_276, s_Law_law_277, s_Law_law_278 rcv_0, s_Law_law_281, s_Law_law_282, s_Law_law_283, s_Law_law_284, s_Law_law_285, s_Law_law_286, s_Law_law_287, s_Law_law_288, s_Law_law_289, s_Law_law_290, s_Law_law_291, s_Law_law_292 rcv_73, s_Law_law_295, r1, r2, Option.bind_some, Option.toList_some, List.cons_append, List.nil_append, fo_g hn (show i + 1 < nn by omega), fo_g hn (show i + 2 < nn by omega), nI_1, nI_2, if_true, s_Law_law_1045, s_Law_law_1048, nI_6]
theorem law_day {i : Nat} (h : Inv I J) (hm : fm = .null ∨ ∃ k, fm = .retAddr k) (hn : nn ≤ 3072) (hi : i + 6 ≤ nn) : LawS nn xs fm I J i 300 := by
  obtain ⟨y, I1, I2, J1, r1, r2, hv⟩ := st_day (lv := 0) (F := jx_fo nn xs fm) h (xs (i + 1))
  have r1 : rn (jx_fo nn xs fm) 10 69 _ _ = _ := r1
  have r2 : rn (jx_fo nn xs fm) 10 137 _ _ = _ := r2
  refine ⟨I2, J1, hv, ?_⟩
  simp only [s_Law_law_300, s_Law_law_301, s_Law_law_302, s_Law_law_303, s_Law_law_304, s_Law_law_305, s_Law_law_306 rcv_0, s_Law_law_309, s_Law_law_310, s_Law_law_311, s_Law_law_312, s_Law_law_313, s_Law_law_314, s_Law_law_315 rcv_73, s_Law_law_318, r1, r2, Option.bind_some, Option.toList_some, List.cons_append, List.nil_append, fo_g hn (show i + 1 < nn by omega), nI_1, if_true, s_Law_law_1045, s_Law_law_1048, nI_6]
theorem law_mend {i : Nat} (h : Inv I J) (hm : fm = .null ∨ ∃ k, fm = .retAddr k) (hn : nn ≤ 3072) (hi : i + 6 ≤ nn) : LawS nn xs fm I J i 323 := by
  obtain ⟨y, I1, I2, J1, r1, r2, hv⟩ := st_mend (lv := 0) (F := jx_fo nn xs fm) h (xs (i + 1)) (xs (i + 2))
  have r1 : rn (jx_fo nn xs fm) 10 70 _ _ = _ := r1
  have r2 : rn (jx_fo nn xs fm) 10 138 _ _ = _ := r2
  refine ⟨I2, J1, hv, ?_⟩
  simp only [s_Law_law_323, s_Law_law_324, s_Law_law_325, s_Law_law_326, s_Law_law_327, s_Law_law_328, s_Law_law_329, s_Law_law_330, s_Law_law_331, s_Law_law_332, s_Law_law_333, s_Law_law_334 rcv_0, s_Law_law_337, s_Law_law_338, s_Law_law_339, s_Law_law_340, s_Law_law_341, s_Law_law_342, s_Law_law_343, s_Law_law_344, s_Law_law_345, s_Law_law_346, s_Law_law_347, s_Law_law_348 rcv_73, s_Law_law_351, r1, r2, Option.bind_some, Option.toList_some, List.cons_append, List.nil_append, fo_g hn (show i + 1 < nn by omega), fo_g hn (show i + 2 < nn by omega), nI_1, nI_2, if_true, s_Law_law_1045, s_Law_law_1048, nI_6]
theorem law_swap {i : Nat} (h : Inv I J) (hm : fm = .null ∨ ∃ k, fm = .retAddr k) (hn : nn ≤ 3072) (hi : i + 6 ≤ nn) : LawS nn xs fm I J i 356 := by
  obtain ⟨y, I1, I2, J1, r1, r2, hv⟩ := st_swap (lv := 0) (F := jx_fo nn xs fm) h (xs (i + 1)) (xs (i + 2))
  have r1 : rn (jx_fo nn xs fm) 10 71 _ _ = _ := r1
  have r2 : rn (jx_fo nn xs fm) 10 139 _ _ = _ := r2
  refine ⟨I2, J1, hv, ?_⟩
  simp only [s_Law_law_356, s_Law_law_357, s_Law_law_358, s_Law_law_359, s_Law_law_360, s_Law_law_361, s_Law_law_362, s_Law_law_363, s_Law_law_364, s_Law_law_365, s_Law_law_366, s_Law_law_367 rcv_0, s_Law_law_370, s_Law_law_371, s_Law_law_372, s_Law_law_373, s_Law_law_374, s_Law_law_375, s_Law_law_376, s_Law_law_377, s_Law_law_378, s_Law_law_379, s_Law_law_380, s_Law_law_381 rcv_73, s_Law_law_384, r1, r2, Option.bind_some, Option.toList_some, List.cons_append, List.nil_append, fo_g hn (show i + 1 < nn by omega), fo_g hn (show i + 2 < nn by omega), nI_1, nI_2, if_true, s_Law_law_1045, s_Law_law_1048, nI_6]
theorem law_undo {i : Nat} (h : Inv I J) (hm : fm = .null ∨ ∃ k, fm = .retAddr k) (hn : nn ≤ 3072) (hi : i + 6 ≤ nn) : LawS nn xs fm I J i 389 := by
  obtain ⟨y, I1, I2, J1, r1, r2, hv⟩ := st_undo (lv := 0) (F := jx_fo nn xs fm) h 
  have r1 : rn (jx_fo nn xs fm) 10 72 _ _ = _ := r1
  have r2 : rn (jx_fo nn xs fm) 10 140 _ _ = _ := r2
  refine ⟨I2, J1, hv, ?_⟩
  simp only [s_Law_law_389, s_Law_law_390 rcv_0, s_Law_law_393, s_Law_law_394 rcv_73, s_Law_law_397, r1, r2, Option.bind_some, Option.toList_some, List.cons_append, List.nil_append, if_true, s_Law_law_1045, s_Law_law_1048, nI_6]
theorem law_keep {i : Nat} (h : Inv I J) (hm : fm = .null ∨ ∃ k, fm = .retAddr k) (hn : nn ≤ 3072) (hi : i + 6 ≤ nn) : LawS nn xs fm I J i 402 := by
  obtain ⟨y, I1, I2, J1, r1, r2, hv⟩ := st_keep (lv := 0) (F := jx_fo nn xs fm) h (xs (i + 1))
  have r1 : rn (jx_fo nn xs fm) 10 73 _ _ = _ := r1
  have r2 : rn (jx_fo nn xs fm) 10 141 _ _ = _ := r2
  refine ⟨I2, J1, hv, ?_⟩
  simp only [s_Law_law_402, s_Law_law_403, s_Law_law_404, s_Law_law_405, s_Law_law_406, s_Law_law_407, s_Law_law_408 rcv_0, s_Law_law_411, s_Law_law_412, s_Law_law_413, s_Law_law_414, s_Law_law_415, s_Law_law_416, s_Law_law_417 rcv_73, s_Law_law_420, r1, r2, Option.bind_some, Option.toList_some, List.cons_append, List.nil_append, fo_g hn (show i + 1 < nn by omega), nI_1, if_true, s_Law_law_1045, s_Law_law_1048, nI_6]
theorem law_back {i : Nat} (h : Inv I J) (hm : fm = .null ∨ ∃ k, fm = .retAddr k) (hn : nn ≤ 3072) (hi : i + 6 ≤ nn) : LawS nn xs fm I J i 425 := by
  obtain ⟨y, I1, I2, J1, r1, r2, hv⟩ := st_back (lv := 0) (F := jx_fo nn xs fm) h (xs (i + 1))
  have r1 : rn (jx_fo nn xs fm) 10 74 _ _ = _ := r1
  have r2 : rn (jx_fo nn xs fm) 10 142 _ _ = _ := r2
  refine ⟨I2, J1, hv, ?_⟩
  simp only [s_Law_law_425, s_Law_law_426, s_Law_law_427, s_Law_law_428, s_Law_law_429, s_Law_law_430, s_Law_law_431 rcv_0, s_Law_law_434, s_Law_law_435, s_Law_law_436, s_Law_law_437, s_Law_law_438, s_Law_law_439, s_Law_law_440 rcv_73, s_Law_law_443, r1, r2, Option.bind_some, Option.toList_some, List.cons_append, List.nil_append, fo_g hn (show i + 1 < nn by omega), nI_1, if_true, s_Law_law_1045, s_Law_law_1048, nI_6]
theorem law_behind {i : Nat} (h : Inv I J) (hm : fm = .null ∨ ∃ k, fm = .retAddr k) (hn : nn ≤ 3072) (hi : i + 6 ≤ nn) : LawS nn xs fm I J i 448 := by
  obtain ⟨y, I1, I2, J1, r1, r2, hv⟩ := st_behind (lv := 0) (F := jx_fo nn xs fm) h (xs (i + 1)) (xs (i + 2))
  have r1 : rn (jx_fo nn xs fm) 10 75 _ _ = _ := r1
  have r2 : rn (jx_fo nn xs fm) 10 144 _ _ = _ := r2
  refine ⟨I2, J1, hv, ?_⟩
  simp only [s_Law_law_448, s_Law_law_449, s_Law_law_450, s_Law_law_451, s_Law_law_452, s_Law_law_453, s_Law_law_454, s_Law_law_455, s_Law_law_456, s_Law_law_457, s_Law_law_458, s_Law_law_459 rcv_0, s_Law_law_462, s_Law_law_463, s_Law_law_464, s_Law_law_465, s_Law_law_466, s_Law_law_467, s_Law_law_468, s_Law_law_469, s_Law_law_470, s_Law_law_471, s_Law_law_472, s_Law_law_473 rcv_73, s_Law_law_476, r1, r2, Option.bind_some, Option.toList_some, List.cons_append, List.nil_append, fo_g hn (show i + 1 < nn by omega), fo_g hn (show i + 2 < nn by omega), nI_1, nI_2, if_true, s_Law_law_1045, s_Law_law_1048, nI_6]
theorem law_home {i : Nat} (h : Inv I J) (hm : fm = .null ∨ ∃ k, fm = .retAddr k) (hn : nn ≤ 3072) (hi : i + 6 ≤ nn) : LawS nn xs fm I J i 481 := by
  obtain ⟨y, I1, I2, J1, r1, r2, hv⟩ := st_home (lv := 0) (F := jx_fo nn xs fm) h (xs (i + 1))
  have r1 : rn (jx_fo nn xs fm) 10 76 _ _ = _ := r1
  have r2 : rn (jx_fo nn xs fm) 10 145 _ _ = _ := r2
  refine ⟨I2, J1, hv, ?_⟩
  simp only [s_Law_law_481, s_Law_law_482, s_Law_law_483, s_Law_law_484, s_Law_law_485, s_Law_law_486, s_Law_law_487 rcv_0, s_Law_law_490, s_Law_law_491, s_Law_law_492, s_Law_law_493, s_Law_law_494, s_Law_law_495, s_Law_law_496 rcv_73, s_Law_law_499, r1, r2, Option.bind_some, Option.toList_some, List.cons_append, List.nil_append, fo_g hn (show i + 1 < nn by omega), nI_1, if_true, s_Law_law_1045, s_Law_law_1048, nI_6]
theorem law_quiet {i : Nat} (h : Inv I J) (hm : fm = .null ∨ ∃ k, fm = .retAddr k) (hn : nn ≤ 3072) (hi : i + 6 ≤ nn) : LawS nn xs fm I J i 504 := by
  obtain ⟨y, I1, I2, J1, r1, r2, hv⟩ := st_quiet (lv := 0) (F := jx_fo nn xs fm) h 
  have r1 : rn (jx_fo nn xs fm) 10 77 _ _ = _ := r1
  have r2 : rn (jx_fo nn xs fm) 10 147 _ _ = _ := r2
  refine ⟨I2, J1, hv, ?_⟩
  simp only [s_Law_law_504, s_Law_law_505 rcv_0, s_Law_law_508, s_Law_law_509 rcv_73, s_Law_law_512, r1, r2, Option.bind_some, Option.toList_some, List.cons_append, List.nil_append, if_true, s_Law_law_1045, s_Law_law_1048, nI_6]
theorem law_left {i : Nat} (h : Inv I J) (hm : fm = .null ∨ ∃ k, fm = .retAddr k) (hn : nn ≤ 3072) (hi : i + 6 ≤ nn) : LawS nn xs fm I J i 517 := by
  obtain ⟨y, I1, I2, J1, r1, r2, hv⟩ := st_left (lv := 0) (F := jx_fo nn xs fm) h (xs (i + 1)) (xs (i + 2))
  have r1 : rn (jx_fo nn xs fm) 10 78 _ _ = _ := r1
  have r2 : rn (jx_fo nn xs fm) 10 149 _ _ = _ := r2
  refine ⟨I2, J1, hv, ?_⟩
  simp only [s_Law_law_517, s_Law_law_518, s_Law_law_519, s_Law_law_520, s_Law_law_521, s_Law_law_522, s_Law_law_523, s_Law_law_524, s_Law_law_525, s_Law_law_526, s_Law_law_527, s_Law_law_528 rcv_0, s_Law_law_531, s_Law_law_532, s_Law_law_533, s_Law_law_534, s_Law_law_535, s_Law_law_536, s_Law_law_537, s_Law_law_538, s_Law_law_539, s_Law_law_540, s_Law_law_541, s_Law_law_542 rcv_73, s_Law_law_545, r1, r2, Option.bind_some, Option.toList_some, List.cons_append, List.nil_append, fo_g hn (show i + 1 < nn by omega), fo_g hn (show i + 2 < nn by omega), nI_1, nI_2, if_true, s_Law_law_1045, s_Law_law_1048, nI_6]
theorem law_coat {i : Nat} (h : Inv I J) (hm : fm = .null ∨ ∃ k, fm = .retAddr k) (hn : nn ≤ 3072) (hi : i + 6 ≤ nn) : LawS nn xs fm I J i 550 := by
  obtain ⟨y, I1, I2, J1, r1, r2, hv⟩ := st_coat (lv := 0) (F := jx_fo nn xs fm) h (xs (i + 1))
  have r1 : rn (jx_fo nn xs fm) 10 79 _ _ = _ := r1
  have r2 : rn (jx_fo nn xs fm) 10 151 _ _ = _ := r2
  refine ⟨I2, J1, hv, ?_⟩
  simp only [s_Law_law_550, s_Law_law_551, s_Law_law_552, s_Law_law_553, s_Law_law_554, s_Law_law_555, s_Law_law_556 rcv_0, s_Law_law_559, s_Law_law_560, s_Law_law_561, s_Law_law_562, s_Law_law_563, s_Law_law_564, s_Law_law_565 rcv_73, s_Law_law_568, r1, r2, Option.bind_some, Option.toList_some, List.cons_append, List.nil_append, fo_g hn (show i + 1 < nn by omega), nI_1, if_true, s_Law_law_1045, s_Law_law_1048, nI_6]
theorem law_pairs {i : Nat} (h : Inv I J) (hm : fm = .null ∨ ∃ k, fm = .retAddr k) (hn : nn ≤ 3072) (hi : i + 6 ≤ nn) : LawS nn xs fm I J i 573 := by
  obtain ⟨y, I1, I2, J1, r1, r2, hv⟩ := st_pairs (lv := 0) (F := jx_fo nn xs fm) h (xs (i + 1)) (xs (i + 2)) (xs (i + 3))
  have r1 : rn (jx_fo nn xs fm) 10 80 _ _ = _ := r1
  have r2 : rn (jx_fo nn xs fm) 10 154 _ _ = _ := r2
  refine ⟨I2, J1, hv, ?_⟩
  simp only [s_Law_law_573, s_Law_law_574, s_Law_law_575, s_Law_law_576, s_Law_law_577, s_Law_law_578, s_Law_law_579, s_Law_law_580, s_Law_law_581, s_Law_law_582, s_Law_law_583, s_Law_law_584, s_Law_law_585, s_Law_law_586, s_Law_law_587, s_Law_law_588, s_Law_law_589 rcv_0, s_Law_law_592, s_Law_law_593, s_Law_law_594, s_Law_law_595, s_Law_law_596, s_Law_law_597, s_Law_law_598, s_Law_law_599, s_Law_law_600, s_Law_law_601, s_Law_law_602, s_Law_law_603, s_Law_law_604, s_Law_law_605, s_Law_law_606, s_Law_law_607, s_Law_law_608 rcv_73, s_Law_law_611, r1, r2, Option.bind_some, Option.toList_some, List.cons_append, List.nil_append, fo_g hn (show i + 1 < nn by omega), fo_g hn (show i + 2 < nn by omega), fo_g hn (show i + 3 < nn by omega), nI_1, nI_2, nI_3, if_true, s_Law_law_1045, s_Law_law_1048, nI_6]
theorem law_keeps {i : Nat} (h : Inv I J) (hm : fm = .null ∨ ∃ k, fm = .retAddr k) (hn : nn ≤ 3072) (hi : i + 6 ≤ nn) : LawS nn xs fm I J i 616 := by
  obtain ⟨y, I1, I2, J1, r1, r2, hv⟩ := st_keeps (lv := 0) (F := jx_fo nn xs fm) h (xs (i + 1)) (xs (i + 2)) (xs (i + 3))
  have r1 : rn (jx_fo nn xs fm) 10 81 _ _ = _ := r1
  have r2 : rn (jx_fo nn xs fm) 10 155 _ _ = _ := r2
  refine ⟨I2, J1, hv, ?_⟩
  simp only [s_Law_law_616, s_Law_law_617, s_Law_law_618, s_Law_law_619, s_Law_law_620, s_Law_law_621, s_Law_law_622, s_Law_law_623, s_Law_law_624, s_Law_law_625, s_Law_law_626, s_Law_law_627, s_Law_law_628, s_Law_law_629, s_Law_law_630, s_Law_law_631, s_Law_law_632 rcv_0, s_Law_law_635, s_Law_law_636, s_Law_law_637, s_Law_law_638, s_Law_law_639, s_Law_law_640, s_Law_law_641, s_Law_law_642, s_Law_law_643, s_Law_law_644, s_Law_law_645, s_Law_law_646, s_Law_law_647, s_Law_law_648, s_Law_law_649, s_Law_law_650, s_Law_law_651 rcv_73, s_Law_law_654, r1, r2, Option.bind_some, Option.toList_some, List.cons_append, List.nil_append, fo_g hn (show i + 1 < nn by omega), fo_g hn (show i + 2 < nn by omega), fo_g hn (show i + 3 < nn by omega), nI_1, nI_2, nI_3, if_true, s_Law_law_1045, s_Law_law_1048, nI_6]
theorem law_seen {i : Nat} (h : Inv I J) (hm : fm = .null ∨ ∃ k, fm = .retAddr k) (hn : nn ≤ 3072) (hi : i + 6 ≤ nn) : LawS nn xs fm I J i 659 := by
  obtain ⟨y, I1, I2, J1, r1, r2, hv⟩ := st_seen (lv := 0) (F := jx_fo nn xs fm) h (xs (i + 1)) (xs (i + 2)) (xs (i + 3))
  have r1 : rn (jx_fo nn xs fm) 10 82 _ _ = _ := r1
  have r2 : rn (jx_fo nn xs fm) 10 156 _ _ = _ := r2
  refine ⟨I2, J1, hv, ?_⟩
  simp only [s_Law_law_659, s_Law_law_660, s_Law_law_661, s_Law_law_662, s_Law_law_663, s_Law_law_664, s_Law_law_665, s_Law_law_666, s_Law_law_667, s_Law_law_668, s_Law_law_669, s_Law_law_670, s_Law_law_671, s_Law_law_672, s_Law_law_673, s_Law_law_674, s_Law_law_675 rcv_0, s_Law_law_678, s_Law_law_679, s_Law_law_680, s_Law_law_681, s_Law_law_682, s_Law_law_683, s_Law_law_684, s_Law_law_685, s_Law_law_686, s_Law_law_687, s_Law_law_688, s_Law_law_689, s_Law_law_690, s_Law_law_691, s_Law_law_692, s_Law_law_693, s_Law_law_694 rcv_73, s_Law_law_697, r1, r2, Option.bind_some, Option.toList_some, List.cons_append, List.nil_append, fo_g hn (show i + 1 < nn by omega), fo_g hn (show i + 2 < nn by omega), fo_g hn (show i + 3 < nn by omega), nI_1, nI_2, nI_3, if_true, s_Law_law_1045, s_Law_law_1048, nI_6]
theorem law_forget {i : Nat} (h : Inv I J) (hm : fm = .null ∨ ∃ k, fm = .retAddr k) (hn : nn ≤ 3072) (hi : i + 6 ≤ nn) : LawS nn xs fm I J i 702 := by
  obtain ⟨y, I1, I2, J1, r1, r2, hv⟩ := st_forget (lv := 0) (F := jx_fo nn xs fm) h 
  have r1 : rn (jx_fo nn xs fm) 10 83 _ _ = _ := r1
  have r2 : rn (jx_fo nn xs fm) 10 157 _ _ = _ := r2
  refine ⟨I2, J1, hv, ?_⟩
  simp only [s_Law_law_702, s_Law_law_703 rcv_0, s_Law_law_706, s_Law_law_707 rcv_73, s_Law_law_710, r1, r2, Option.bind_some, Option.toList_some, List.cons_append, List.nil_append, if_true, s_Law_law_1045, s_Law_law_1048, nI_6]
theorem law_kinds {i : Nat} (h : Inv I J) (hm : fm = .null ∨ ∃ k, fm = .retAddr k) (hn : nn ≤ 3072) (hi : i + 6 ≤ nn) : LawS nn xs fm I J i 715 := by
  obtain ⟨y, I1, I2, J1, r1, r2, hv⟩ := st_kinds (lv := 0) (F := jx_fo nn xs fm) h 
  have r1 : rn (jx_fo nn xs fm) 10 84 _ _ = _ := r1
  have r2 : rn (jx_fo nn xs fm) 10 159 _ _ = _ := r2
  refine ⟨I2, J1, hv, ?_⟩
  simp only [s_Law_law_715, s_Law_law_716 rcv_0, s_Law_law_719, s_Law_law_720 rcv_73, s_Law_law_723, r1, r2, Option.bind_some, Option.toList_some, List.cons_append, List.nil_append, if_true, s_Law_law_1045, s_Law_law_1048, nI_6]
theorem law_ask {i : Nat} (h : Inv I J) (hm : fm = .null ∨ ∃ k, fm = .retAddr k) (hn : nn ≤ 3072) (hi : i + 6 ≤ nn) : LawS nn xs fm I J i 728 := by
  obtain ⟨y, I1, I2, J1, r1, r2, hv⟩ := st_ask (lv := 0) (F := jx_fo nn xs fm) h 
  have r1 : rn (jx_fo nn xs fm) 10 85 _ _ = _ := r1
  have r2 : rn (jx_fo nn xs fm) 10 160 _ _ = _ := r2
  refine ⟨I2, J1, hv, ?_⟩
  simp only [s_Law_law_728, s_Law_law_729 rcv_0, s_Law_law_732, s_Law_law_733 rcv_73, s_Law_law_736, r1, r2, Option.bind_some, Option.toList_some, List.cons_append, List.nil_append, if_true, s_Law_law_1045, s_Law_law_1048, nI_6]
theorem law_sheet {i : Nat} (h : Inv I J) (hm : fm = .null ∨ ∃ k, fm = .retAddr k) (hn : nn ≤ 3072) (hi : i + 6 ≤ nn) : LawS nn xs fm I J i 741 := by
  obtain ⟨y, I1, I2, J1, r1, r2, hv⟩ := st_sheet (lv := 0) (F := jx_fo nn xs fm) h (xs (i + 1)) (xs (i + 2)) (xs (i + 3))
  have r1 : rn (jx_fo nn xs fm) 10 86 _ _ = _ := r1
  have r2 : rn (jx_fo nn xs fm) 10 162 _ _ = _ := r2
  refine ⟨I2, J1, hv, ?_⟩
  simp only [s_Law_law_741, s_Law_law_742, s_Law_law_743, s_Law_law_744, s_Law_law_745, s_Law_law_746, s_Law_law_747, s_Law_law_748, s_Law_law_749, s_Law_law_750, s_Law_law_751, s_Law_law_752, s_Law_law_753, s_Law_law_754, s_Law_law_755, s_Law_law_756, s_Law_law_757 rcv_0, s_Law_law_760, s_Law_law_761, s_Law_law_762, s_Law_law_763, s_Law_law_764, s_Law_law_765, s_Law_law_766, s_Law_law_767, s_Law_law_768, s_Law_law_769, s_Law_law_770, s_Law_law_771, s_Law_law_772, s_Law_law_773, s_Law_law_774, s_Law_law_775, s_Law_law_776 rcv_73, s_Law_law_779, r1, r2, Option.bind_some, Option.toList_some, List.cons_append, List.nil_append, fo_g hn (show i + 1 < nn by omega), fo_g hn (show i + 2 < nn by omega), fo_g hn (show i + 3 < nn by omega), nI_1, nI_2, nI_3, if_true, s_Law_law_1045, s_Law_law_1048, nI_6]
theorem law_set {i : Nat} (h : Inv I J) (hm : fm = .null ∨ ∃ k, fm = .retAddr k) (hn : nn ≤ 3072) (hi : i + 6 ≤ nn) : LawS nn xs fm I J i 784 := by
  obtain ⟨y, I1, I2, J1, r1, r2, hv⟩ := st_set (lv := 0) (F := jx_fo nn xs fm) h (xs (i + 1)) (xs (i + 2)) (xs (i + 3)) (xs (i + 4))
  have r1 : rn (jx_fo nn xs fm) 10 87 _ _ = _ := r1
  have r2 : rn (jx_fo nn xs fm) 10 164 _ _ = _ := r2
  refine ⟨I2, J1, hv, ?_⟩
  simp only [s_Law_law_784, s_Law_law_785, s_Law_law_786, s_Law_law_787, s_Law_law_788, s_Law_law_789, s_Law_law_790, s_Law_law_791, s_Law_law_792, s_Law_law_793, s_Law_law_794, s_Law_law_795, s_Law_law_796, s_Law_law_797, s_Law_law_798, s_Law_law_799, s_Law_law_800, s_Law_law_801, s_Law_law_802, s_Law_law_803, s_Law_law_804, s_Law_law_805 rcv_0, s_Law_law_808, s_Law_law_809, s_Law_law_810, s_Law_law_811, s_Law_law_812, s_Law_law_813, s_Law_law_814, s_Law_law_815, s_Law_law_816, s_Law_law_817, s_Law_law_818, s_Law_law_819, s_Law_law_820, s_Law_law_821, s_Law_law_822, s_Law_law_823, s_Law_law_824, s_Law_law_825, s_Law_law_826, s_Law_law_827, s_Law_law_828, s_Law_law_829 rcv_73, s_Law_law_832, r1, r2, Option.bind_some, Option.toList_some, List.cons_append, List.nil_append, fo_g hn (show i + 1 < nn by omega), fo_g hn (show i + 2 < nn by omega), fo_g hn (show i + 3 < nn by omega), fo_g hn (show i + 4 < nn by omega), nI_1, nI_2, nI_3, nI_4, if_true, s_Law_law_1045, s_Law_law_1048, nI_6]
theorem law_get {i : Nat} (h : Inv I J) (hm : fm = .null ∨ ∃ k, fm = .retAddr k) (hn : nn ≤ 3072) (hi : i + 6 ≤ nn) : LawS nn xs fm I J i 837 := by
  obtain ⟨y, I1, I2, J1, r1, r2, hv⟩ := st_get (lv := 0) (F := jx_fo nn xs fm) h (xs (i + 1)) (xs (i + 2)) (xs (i + 3))
  have r1 : rn (jx_fo nn xs fm) 10 88 _ _ = _ := r1
  have r2 : rn (jx_fo nn xs fm) 10 165 _ _ = _ := r2
  refine ⟨I2, J1, hv, ?_⟩
  simp only [s_Law_law_837, s_Law_law_838, s_Law_law_839, s_Law_law_840, s_Law_law_841, s_Law_law_842, s_Law_law_843, s_Law_law_844, s_Law_law_845, s_Law_law_846, s_Law_law_847, s_Law_law_848, s_Law_law_849, s_Law_law_850, s_Law_law_851, s_Law_law_852, s_Law_law_853 rcv_0, s_Law_law_856, s_Law_law_857, s_Law_law_858, s_Law_law_859, s_Law_law_860, s_Law_law_861, s_Law_law_862, s_Law_law_863, s_Law_law_864, s_Law_law_865, s_Law_law_866, s_Law_law_867, s_Law_law_868, s_Law_law_869, s_Law_law_870, s_Law_law_871, s_Law_law_872 rcv_73, s_Law_law_875, r1, r2, Option.bind_some, Option.toList_some, List.cons_append, List.nil_append, fo_g hn (show i + 1 < nn by omega), fo_g hn (show i + 2 < nn by omega), fo_g hn (show i + 3 < nn by omega), nI_1, nI_2, nI_3, if_true, s_Law_law_1045, s_Law_law_1048, nI_6]
theorem law_copy {i : Nat} (h : Inv I J) (hm : fm = .null ∨ ∃ k, fm = .retAddr k) (hn : nn ≤ 3072) (hi : i + 6 ≤ nn) : LawS nn xs fm I J i 880 := by
  obtain ⟨y, I1, I2, J1, r1, r2, hv⟩ := st_copy (lv := 0) (F := jx_fo nn xs fm) h (xs (i + 1)) (xs (i + 2)) (xs (i + 3)) (xs (i + 4)) (xs (i + 5))
  have r1 : rn (jx_fo nn xs fm) 10 89 _ _ = _ := r1
  have r2 : rn (jx_fo nn xs fm) 10 167 _ _ = _ := r2
  refine ⟨I2, J1, hv, ?_⟩
  simp only [s_Law_law_880, s_Law_law_881, s_Law_law_882, s_Law_law_883, s_Law_law_884, s_Law_law_885, s_Law_law_886, s_Law_law_887, s_Law_law_888, s_Law_law_889, s_Law_law_890, s_Law_law_891, s_Law_law_892, s_Law_law_893, s_Law_law_894, s_Law_law_895, s_Law_law_896, s_Law_law_897, s_Law_law_898, s_Law_law_899, s_Law_law_900, s_Law_law_901, s_Law_law_902, s_Law_law_903, s_Law_law_904, s_Law_law_905, s_Law_law_906 rcv_0, s_Law_law_909, s_Law_law_910, s_Law_law_911, s_Law_law_912, s_Law_law_913, s_Law_law_914, s_Law_law_915, s_Law_law_916, s_Law_law_917, s_Law_law_918, s_Law_law_919, s_Law_law_920, s_Law_law_921, s_Law_law_922, s_Law_law_923, s_Law_law_924, s_Law_law_925, s_Law_law_926, s_Law_law_927, s_Law_law_928, s_Law_law_929, s_Law_law_930, s_Law_law_931, s_Law_law_932, s_Law_law_933, s_Law_law_934, s_Law_law_935 rcv_73, s_Law_law_938, r1, r2, Option.bind_some, Option.toList_some, List.cons_append, List.nil_append, fo_g hn (show i + 1 < nn by omega), fo_g hn (show i + 2 < nn by omega), fo_g hn (show i + 3 < nn by omega), fo_g hn (show i + 4 < nn by omega), fo_g hn (show i + 5 < nn by omega), nI_1, nI_2, nI_3, nI_4, nI_5, if_true, s_Law_law_1045, s_Law_law_1048, nI_6]
theorem law_join {i : Nat} (h : Inv I J) (hm : fm = .null ∨ ∃ k, fm = .retAddr k) (hn : nn ≤ 3072) (hi : i + 6 ≤ nn) : LawS nn xs fm I J i 943 := by
  obtain ⟨y, I1, I2, J1, r1, r2, hv⟩ := st_join (lv := 0) (F := jx_fo nn xs fm) h (xs (i + 1)) (xs (i + 2))
  have r1 : rn (jx_fo nn xs fm) 10 90 _ _ = _ := r1
  have r2 : rn (jx_fo nn xs fm) 10 168 _ _ = _ := r2
  refine ⟨I2, J1, hv, ?_⟩
  simp only [s_Law_law_943, s_Law_law_944, s_Law_law_945, s_Law_law_946, s_Law_law_947, s_Law_law_948, s_Law_law_949, s_Law_law_950, s_Law_law_951, s_Law_law_952, s_Law_law_953, s_Law_law_954 rcv_0, s_Law_law_957, s_Law_law_958, s_Law_law_959, s_Law_law_960, s_Law_law_961, s_Law_law_962, s_Law_law_963, s_Law_law_964, s_Law_law_965, s_Law_law_966, s_Law_law_967, s_Law_law_968 rcv_73, s_Law_law_971, r1, r2, Option.bind_some, Option.toList_some, List.cons_append, List.nil_append, fo_g hn (show i + 1 < nn by omega), fo_g hn (show i + 2 < nn by omega), nI_1, nI_2, if_true, s_Law_law_1045, s_Law_law_1048, nI_6]
theorem law_sum {i : Nat} (h : Inv I J) (hm : fm = .null ∨ ∃ k, fm = .retAddr k) (hn : nn ≤ 3072) (hi : i + 6 ≤ nn) : LawS nn xs fm I J i 976 := by
  obtain ⟨y, I1, I2, J1, r1, r2, hv⟩ := st_sum (lv := 0) (F := jx_fo nn xs fm) h (xs (i + 1))
  have r1 : rn (jx_fo nn xs fm) 10 91 _ _ = _ := r1
  have r2 : rn (jx_fo nn xs fm) 10 169 _ _ = _ := r2
  refine ⟨I2, J1, hv, ?_⟩
  simp only [s_Law_law_976, s_Law_law_977, s_Law_law_978, s_Law_law_979, s_Law_law_980, s_Law_law_981, s_Law_law_982 rcv_0, s_Law_law_985, s_Law_law_986, s_Law_law_987, s_Law_law_988, s_Law_law_989, s_Law_law_990, s_Law_law_991 rcv_73, s_Law_law_994, r1, r2, Option.bind_some, Option.toList_some, List.cons_append, List.nil_append, fo_g hn (show i + 1 < nn by omega), nI_1, if_true, s_Law_law_1045, s_Law_law_1048, nI_6]
theorem law_drop {i : Nat} (h : Inv I J) (hm : fm = .null ∨ ∃ k, fm = .retAddr k) (hn : nn ≤ 3072) (hi : i + 6 ≤ nn) : LawS nn xs fm I J i 999 := by
  obtain ⟨y, I1, I2, J1, r1, r2, hv⟩ := st_drop (lv := 0) (F := jx_fo nn xs fm) h (xs (i + 1))
  have r1 : rn (jx_fo nn xs fm) 10 92 _ _ = _ := r1
  have r2 : rn (jx_fo nn xs fm) 10 170 _ _ = _ := r2
  refine ⟨I2, J1, hv, ?_⟩
  simp only [s_Law_law_999, s_Law_law_1000, s_Law_law_1001, s_Law_law_1002, s_Law_law_1003, s_Law_law_1004, s_Law_law_1005 rcv_0, s_Law_law_1008, s_Law_law_1009, s_Law_law_1010, s_Law_law_1011, s_Law_law_1012, s_Law_law_1013, s_Law_law_1014 rcv_73, s_Law_law_1017, r1, r2, Option.bind_some, Option.toList_some, List.cons_append, List.nil_append, fo_g hn (show i + 1 < nn by omega), nI_1, if_true, s_Law_law_1045, s_Law_law_1048, nI_6]
theorem law_count {i : Nat} (h : Inv I J) (hm : fm = .null ∨ ∃ k, fm = .retAddr k) (hn : nn ≤ 3072) (hi : i + 6 ≤ nn) : LawS nn xs fm I J i 1022 := by
  obtain ⟨y, I1, I2, J1, r1, r2, hv⟩ := st_count (lv := 0) (F := jx_fo nn xs fm) h (xs (i + 1))
  have r1 : rn (jx_fo nn xs fm) 10 93 _ _ = _ := r1
  have r2 : rn (jx_fo nn xs fm) 10 173 _ _ = _ := r2
  refine ⟨I2, J1, hv, ?_⟩
  simp only [s_Law_law_1022, s_Law_law_1023, s_Law_law_1024, s_Law_law_1025, s_Law_law_1026, s_Law_law_1027, s_Law_law_1028 rcv_0, s_Law_law_1031, s_Law_law_1032, s_Law_law_1033, s_Law_law_1034, s_Law_law_1035, s_Law_law_1036, s_Law_law_1037 rcv_73, s_Law_law_1040, r1, r2, Option.bind_some, Option.toList_some, List.cons_append, List.nil_append, fo_g hn (show i + 1 < nn by omega), nI_1, if_true, s_Law_law_1045, s_Law_law_1048, nI_6]
end Law
