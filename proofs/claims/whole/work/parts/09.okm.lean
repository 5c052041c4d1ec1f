/-! the methods: what is known of each (printed by wip/whole/gen.py) -/
theorem ji_Army_ini : Cond.initialized "OppositeThreads$Army" ∈ jx_G := jx_mem 51 (by decide +kernel) (by decide +kernel)
theorem ji_Army_inic : jx_cno 0 "OppositeThreads$Army" := fun r h => by cases h; rfl
set_option maxRecDepth 100000 in
theorem jk_Army_init_w : Cond.code ⟨"OppositeThreads$Army", "<init>", "()V"⟩ prog_2_method_1_code 1 none ∈ jx_G := jx_mem 77 rfl (by decide +kernel)
theorem jk_Army_init : jx_okM jx_nm 0 jm_Army_init (⟨"OppositeThreads$Army", "<init>", "()V"⟩, prog_2_method_1_code, none) := ⟨by decide, jd_Army_init, jo_Army, ji_Army_inic, (fun h => by cases h), jk_Army_init_w, Or.inl ⟨rfl, rfl⟩, (fun _ => rfl), rfl, by decide, ji_Army_ini, by decide, by decide⟩
set_option maxRecDepth 100000 in
theorem jk_Army_begin_w : Cond.code ⟨"OppositeThreads$Army", "begin", "(I)V"⟩ prog_2_method_2_code 3 none ∈ jx_G := jx_mem 82 rfl (by decide +kernel)
theorem jk_Army_begin : jx_okM jx_nm 1 jm_Army_begin (⟨"OppositeThreads$Army", "begin", "(I)V"⟩, prog_2_method_2_code, none) := ⟨by decide, jd_Army_begin, jo_Army, ji_Army_inic, (fun h => by cases h), jk_Army_begin_w, Or.inl ⟨rfl, rfl⟩, (fun h => by cases h), rfl, by decide, ji_Army_ini, by decide, by decide⟩
set_option maxRecDepth 100000 in
theorem jk_Army_takeFrom_w : Cond.code ⟨"OppositeThreads$Army", "takeFrom", "(LOppositeThreads$Army;)V"⟩ prog_2_method_3_code 2 none ∈ jx_G := jx_mem 256 rfl (by decide +kernel)
theorem jk_Army_takeFrom : jx_okM jx_nm 2 jm_Army_takeFrom (⟨"OppositeThreads$Army", "takeFrom", "(LOppositeThreads$Army;)V"⟩, prog_2_method_3_code, none) := ⟨by decide, jd_Army_takeFrom, jo_Army, ji_Army_inic, (fun h => by cases h), jk_Army_takeFrom_w, Or.inl ⟨rfl, rfl⟩, (fun h => by cases h), rfl, by decide, ji_Army_ini, by decide, by decide⟩
set_option maxRecDepth 100000 in
theorem jk_Army_has_w : Cond.code ⟨"OppositeThreads$Army", "has", "(I)Z"⟩ prog_2_method_4_code 2 (some Jvm.ClassFile.FieldType.boolean) ∈ jx_G := jx_mem 350 rfl (by decide +kernel)
theorem jk_Army_has : jx_okM jx_nm 3 jm_Army_has (⟨"OppositeThreads$Army", "has", "(I)Z"⟩, prog_2_method_4_code, (some Jvm.ClassFile.FieldType.boolean)) := ⟨by decide, jd_Army_has, jo_Army, ji_Army_inic, (fun h => by cases h), jk_Army_has_w, Or.inr (Or.inr (Or.inr (Or.inr (Or.inl ⟨rfl, rfl⟩)))), (fun h => by cases h), rfl, by decide, ji_Army_ini, by decide, by decide⟩
set_option maxRecDepth 100000 in
theorem jk_Army_sideOf_w : Cond.code ⟨"OppositeThreads$Army", "sideOf", "(I)I"⟩ prog_2_method_5_code 2 (some Jvm.ClassFile.FieldType.int) ∈ jx_G := jx_mem 362 rfl (by decide +kernel)
theorem jk_Army_sideOf : jx_okM jx_nm 4 jm_Army_sideOf (⟨"OppositeThreads$Army", "sideOf", "(I)I"⟩, prog_2_method_5_code, (some Jvm.ClassFile.FieldType.int)) := ⟨by decide, jd_Army_sideOf, jo_Army, ji_Army_inic, (fun h => by cases h), jk_Army_sideOf_w, Or.inr (Or.inl ⟨rfl, rfl⟩), (fun h => by cases h), rfl, by decide, ji_Army_ini, by decide, by decide⟩
set_option maxRecDepth 100000 in
theorem jk_Army_firstOf_w : Cond.code ⟨"OppositeThreads$Army", "firstOf", "(I)I"⟩ prog_2_method_6_code 2 (some Jvm.ClassFile.FieldType.int) ∈ jx_G := jx_mem 366 rfl (by decide +kernel)
theorem jk_Army_firstOf : jx_okM jx_nm 5 jm_Army_firstOf (⟨"OppositeThreads$Army", "firstOf", "(I)I"⟩, prog_2_method_6_code, (some Jvm.ClassFile.FieldType.int)) := ⟨by decide, jd_Army_firstOf, jo_Army, ji_Army_inic, (fun h => by cases h), jk_Army_firstOf_w, Or.inr (Or.inl ⟨rfl, rfl⟩), (fun h => by cases h), rfl, by decide, ji_Army_ini, by decide, by decide⟩
set_option maxRecDepth 100000 in
theorem jk_Army_isHome_w : Cond.code ⟨"OppositeThreads$Army", "isHome", "(I)Z"⟩ prog_2_method_7_code 2 (some Jvm.ClassFile.FieldType.boolean) ∈ jx_G := jx_mem 393 rfl (by decide +kernel)
theorem jk_Army_isHome : jx_okM jx_nm 6 jm_Army_isHome (⟨"OppositeThreads$Army", "isHome", "(I)Z"⟩, prog_2_method_7_code, (some Jvm.ClassFile.FieldType.boolean)) := ⟨by decide, jd_Army_isHome, jo_Army, ji_Army_inic, (fun h => by cases h), jk_Army_isHome_w, Or.inr (Or.inr (Or.inr (Or.inr (Or.inl ⟨rfl, rfl⟩)))), (fun h => by cases h), rfl, by decide, ji_Army_ini, by decide, by decide⟩
set_option maxRecDepth 100000 in
theorem jk_Army_isOpen_w : Cond.code ⟨"OppositeThreads$Army", "isOpen", "(II)Z"⟩ prog_2_method_8_code 3 (some Jvm.ClassFile.FieldType.boolean) ∈ jx_G := jx_mem 407 rfl (by decide +kernel)
theorem jk_Army_isOpen : jx_okM jx_nm 7 jm_Army_isOpen (⟨"OppositeThreads$Army", "isOpen", "(II)Z"⟩, prog_2_method_8_code, (some Jvm.ClassFile.FieldType.boolean)) := ⟨by decide, jd_Army_isOpen, jo_Army, ji_Army_inic, (fun h => by cases h), jk_Army_isOpen_w, Or.inr (Or.inr (Or.inr (Or.inr (Or.inl ⟨rfl, rfl⟩)))), (fun h => by cases h), rfl, by decide, ji_Army_ini, by decide, by decide⟩
set_option maxRecDepth 100000 in
theorem jk_Army_aimOf_w : Cond.code ⟨"OppositeThreads$Army", "aimOf", "(I)I"⟩ prog_2_method_9_code 2 (some Jvm.ClassFile.FieldType.int) ∈ jx_G := jx_mem 389 rfl (by decide +kernel)
theorem jk_Army_aimOf : jx_okM jx_nm 8 jm_Army_aimOf (⟨"OppositeThreads$Army", "aimOf", "(I)I"⟩, prog_2_method_9_code, (some Jvm.ClassFile.FieldType.int)) := ⟨by decide, jd_Army_aimOf, jo_Army, ji_Army_inic, (fun h => by cases h), jk_Army_aimOf_w, Or.inr (Or.inl ⟨rfl, rfl⟩), (fun h => by cases h), rfl, by decide, ji_Army_ini, by decide, by decide⟩
set_option maxRecDepth 100000 in
theorem jk_Army_leastOpen_w : Cond.code ⟨"OppositeThreads$Army", "leastOpen", "(I)I"⟩ prog_2_method_10_code 4 (some Jvm.ClassFile.FieldType.int) ∈ jx_G := jx_mem 401 rfl (by decide +kernel)
theorem jk_Army_leastOpen : jx_okM jx_nm 9 jm_Army_leastOpen (⟨"OppositeThreads$Army", "leastOpen", "(I)I"⟩, prog_2_method_10_code, (some Jvm.ClassFile.FieldType.int)) := ⟨by decide, jd_Army_leastOpen, jo_Army, ji_Army_inic, (fun h => by cases h), jk_Army_leastOpen_w, Or.inr (Or.inl ⟨rfl, rfl⟩), (fun h => by cases h), rfl, by decide, ji_Army_ini, by decide, by decide⟩
set_option maxRecDepth 100000 in
theorem jk_Army_greatestOpen_w : Cond.code ⟨"OppositeThreads$Army", "greatestOpen", "(I)I"⟩ prog_2_method_11_code 4 (some Jvm.ClassFile.FieldType.int) ∈ jx_G := jx_mem 411 rfl (by decide +kernel)
theorem jk_Army_greatestOpen : jx_okM jx_nm 10 jm_Army_greatestOpen (⟨"OppositeThreads$Army", "greatestOpen", "(I)I"⟩, prog_2_method_11_code, (some Jvm.ClassFile.FieldType.int)) := ⟨by decide, jd_Army_greatestOpen, jo_Army, ji_Army_inic, (fun h => by cases h), jk_Army_greatestOpen_w, Or.inr (Or.inl ⟨rfl, rfl⟩), (fun h => by cases h), rfl, by decide, ji_Army_ini, by decide, by decide⟩
set_option maxRecDepth 100000 in
theorem jk_Army_fullestOpen_w : Cond.code ⟨"OppositeThreads$Army", "fullestOpen", "(I)I"⟩ prog_2_method_12_code 6 (some Jvm.ClassFile.FieldType.int) ∈ jx_G := jx_mem 415 rfl (by decide +kernel)
theorem jk_Army_fullestOpen : jx_okM jx_nm 11 jm_Army_fullestOpen (⟨"OppositeThreads$Army", "fullestOpen", "(I)I"⟩, prog_2_method_12_code, (some Jvm.ClassFile.FieldType.int)) := ⟨by decide, jd_Army_fullestOpen, jo_Army, ji_Army_inic, (fun h => by cases h), jk_Army_fullestOpen_w, Or.inr (Or.inl ⟨rfl, rfl⟩), (fun h => by cases h), rfl, by decide, ji_Army_ini, by decide, by decide⟩
set_option maxRecDepth 100000 in
theorem jk_Army_pass_w : Cond.code ⟨"OppositeThreads$Army", "pass", "(I)V"⟩ prog_2_method_13_code 3 none ∈ jx_G := jx_mem 445 rfl (by decide +kernel)
theorem jk_Army_pass : jx_okM jx_nm 12 jm_Army_pass (⟨"OppositeThreads$Army", "pass", "(I)V"⟩, prog_2_method_13_code, none) := ⟨by decide, jd_Army_pass, jo_Army, ji_Army_inic, (fun h => by cases h), jk_Army_pass_w, Or.inl ⟨rfl, rfl⟩, (fun h => by cases h), rfl, by decide, ji_Army_ini, by decide, by decide⟩
set_option maxRecDepth 100000 in
theorem jk_Army_passDay_w : Cond.code ⟨"OppositeThreads$Army", "passDay", "()V"⟩ prog_2_method_14_code 5 none ∈ jx_G := jx_mem 449 rfl (by decide +kernel)
theorem jk_Army_passDay : jx_okM jx_nm 13 jm_Army_passDay (⟨"OppositeThreads$Army", "passDay", "()V"⟩, prog_2_method_14_code, none) := ⟨by decide, jd_Army_passDay, jo_Army, ji_Army_inic, (fun h => by cases h), jk_Army_passDay_w, Or.inl ⟨rfl, rfl⟩, (fun h => by cases h), rfl, by decide, ji_Army_ini, by decide, by decide⟩
set_option maxRecDepth 100000 in
theorem jk_Army_bringHamper_w : Cond.code ⟨"OppositeThreads$Army", "bringHamper", "()V"⟩ prog_2_method_15_code 2 none ∈ jx_G := jx_mem 455 rfl (by decide +kernel)
theorem jk_Army_bringHamper : jx_okM jx_nm 14 jm_Army_bringHamper (⟨"OppositeThreads$Army", "bringHamper", "()V"⟩, prog_2_method_15_code, none) := ⟨by decide, jd_Army_bringHamper, jo_Army, ji_Army_inic, (fun h => by cases h), jk_Army_bringHamper_w, Or.inl ⟨rfl, rfl⟩, (fun h => by cases h), rfl, by decide, ji_Army_ini, by decide, by decide⟩
set_option maxRecDepth 100000 in
theorem jk_Army_knowersOf_w : Cond.code ⟨"OppositeThreads$Army", "knowersOf", "(I)I"⟩ prog_2_method_16_code 4 (some Jvm.ClassFile.FieldType.int) ∈ jx_G := jx_mem 422 rfl (by decide +kernel)
theorem jk_Army_knowersOf : jx_okM jx_nm 15 jm_Army_knowersOf (⟨"OppositeThreads$Army", "knowersOf", "(I)I"⟩, prog_2_method_16_code, (some Jvm.ClassFile.FieldType.int)) := ⟨by decide, jd_Army_knowersOf, jo_Army, ji_Army_inic, (fun h => by cases h), jk_Army_knowersOf_w, Or.inr (Or.inl ⟨rfl, rfl⟩), (fun h => by cases h), rfl, by decide, ji_Army_ini, by decide, by decide⟩
set_option maxRecDepth 100000 in
theorem jk_Army_aimersAt_w : Cond.code ⟨"OppositeThreads$Army", "aimersAt", "(I)I"⟩ prog_2_method_17_code 4 (some Jvm.ClassFile.FieldType.int) ∈ jx_G := jx_mem 547 rfl (by decide +kernel)
theorem jk_Army_aimersAt : jx_okM jx_nm 16 jm_Army_aimersAt (⟨"OppositeThreads$Army", "aimersAt", "(I)I"⟩, prog_2_method_17_code, (some Jvm.ClassFile.FieldType.int)) := ⟨by decide, jd_Army_aimersAt, jo_Army, ji_Army_inic, (fun h => by cases h), jk_Army_aimersAt_w, Or.inr (Or.inl ⟨rfl, rfl⟩), (fun h => by cases h), rfl, by decide, ji_Army_ini, by decide, by decide⟩
set_option maxRecDepth 100000 in
theorem jk_Army_aimers_w : Cond.code ⟨"OppositeThreads$Army", "aimers", "()I"⟩ prog_2_method_18_code 3 (some Jvm.ClassFile.FieldType.int) ∈ jx_G := jx_mem 502 rfl (by decide +kernel)
theorem jk_Army_aimers : jx_okM jx_nm 17 jm_Army_aimers (⟨"OppositeThreads$Army", "aimers", "()I"⟩, prog_2_method_18_code, (some Jvm.ClassFile.FieldType.int)) := ⟨by decide, jd_Army_aimers, jo_Army, ji_Army_inic, (fun h => by cases h), jk_Army_aimers_w, Or.inr (Or.inl ⟨rfl, rfl⟩), (fun h => by cases h), rfl, by decide, ji_Army_ini, by decide, by decide⟩
set_option maxRecDepth 100000 in
theorem jk_Army_inField_w : Cond.code ⟨"OppositeThreads$Army", "inField", "()I"⟩ prog_2_method_19_code 3 (some Jvm.ClassFile.FieldType.int) ∈ jx_G := jx_mem 684 rfl (by decide +kernel)
theorem jk_Army_inField : jx_okM jx_nm 18 jm_Army_inField (⟨"OppositeThreads$Army", "inField", "()I"⟩, prog_2_method_19_code, (some Jvm.ClassFile.FieldType.int)) := ⟨by decide, jd_Army_inField, jo_Army, ji_Army_inic, (fun h => by cases h), jk_Army_inField_w, Or.inr (Or.inl ⟨rfl, rfl⟩), (fun h => by cases h), rfl, by decide, ji_Army_ini, by decide, by decide⟩
set_option maxRecDepth 100000 in
theorem jk_Army_leftOf_w : Cond.code ⟨"OppositeThreads$Army", "leftOf", "(I)I"⟩ prog_2_method_20_code 5 (some Jvm.ClassFile.FieldType.int) ∈ jx_G := jx_mem 513 rfl (by decide +kernel)
theorem jk_Army_leftOf : jx_okM jx_nm 19 jm_Army_leftOf (⟨"OppositeThreads$Army", "leftOf", "(I)I"⟩, prog_2_method_20_code, (some Jvm.ClassFile.FieldType.int)) := ⟨by decide, jd_Army_leftOf, jo_Army, ji_Army_inic, (fun h => by cases h), jk_Army_leftOf_w, Or.inr (Or.inl ⟨rfl, rfl⟩), (fun h => by cases h), rfl, by decide, ji_Army_ini, by decide, by decide⟩
set_option maxRecDepth 100000 in
theorem jk_Army_leftOfBoth_w : Cond.code ⟨"OppositeThreads$Army", "leftOfBoth", "()I"⟩ prog_2_method_21_code 1 (some Jvm.ClassFile.FieldType.int) ∈ jx_G := jx_mem 524 rfl (by decide +kernel)
theorem jk_Army_leftOfBoth : jx_okM jx_nm 20 jm_Army_leftOfBoth (⟨"OppositeThreads$Army", "leftOfBoth", "()I"⟩, prog_2_method_21_code, (some Jvm.ClassFile.FieldType.int)) := ⟨by decide, jd_Army_leftOfBoth, jo_Army, ji_Army_inic, (fun h => by cases h), jk_Army_leftOfBoth_w, Or.inr (Or.inl ⟨rfl, rfl⟩), (fun h => by cases h), rfl, by decide, ji_Army_ini, by decide, by decide⟩
set_option maxRecDepth 100000 in
theorem jk_Army_buttonsOf_w : Cond.code ⟨"OppositeThreads$Army", "buttonsOf", "(I)I"⟩ prog_2_method_22_code 5 (some Jvm.ClassFile.FieldType.int) ∈ jx_G := jx_mem 688 rfl (by decide +kernel)
theorem jk_Army_buttonsOf : jx_okM jx_nm 21 jm_Army_buttonsOf (⟨"OppositeThreads$Army", "buttonsOf", "(I)I"⟩, prog_2_method_22_code, (some Jvm.ClassFile.FieldType.int)) := ⟨by decide, jd_Army_buttonsOf, jo_Army, ji_Army_inic, (fun h => by cases h), jk_Army_buttonsOf_w, Or.inr (Or.inl ⟨rfl, rfl⟩), (fun h => by cases h), rfl, by decide, ji_Army_ini, by decide, by decide⟩
set_option maxRecDepth 100000 in
theorem jk_Army_placeInPlan_w : Cond.code ⟨"OppositeThreads$Army", "placeInPlan", "(II)I"⟩ prog_2_method_23_code 3 (some Jvm.ClassFile.FieldType.int) ∈ jx_G := jx_mem 538 rfl (by decide +kernel)
theorem jk_Army_placeInPlan : jx_okM jx_nm 22 jm_Army_placeInPlan (⟨"OppositeThreads$Army", "placeInPlan", "(II)I"⟩, prog_2_method_23_code, (some Jvm.ClassFile.FieldType.int)) := ⟨by decide, jd_Army_placeInPlan, jo_Army, ji_Army_inic, (fun h => by cases h), jk_Army_placeInPlan_w, Or.inr (Or.inl ⟨rfl, rfl⟩), (fun h => by cases h), rfl, by decide, ji_Army_ini, by decide, by decide⟩
set_option maxRecDepth 100000 in
theorem jk_Army_takePlan_w : Cond.code ⟨"OppositeThreads$Army", "takePlan", "(II)Z"⟩ prog_2_method_24_code 8 (some Jvm.ClassFile.FieldType.boolean) ∈ jx_G := jx_mem 534 rfl (by decide +kernel)
theorem jk_Army_takePlan : jx_okM jx_nm 23 jm_Army_takePlan (⟨"OppositeThreads$Army", "takePlan", "(II)Z"⟩, prog_2_method_24_code, (some Jvm.ClassFile.FieldType.boolean)) := ⟨by decide, jd_Army_takePlan, jo_Army, ji_Army_inic, (fun h => by cases h), jk_Army_takePlan_w, Or.inr (Or.inr (Or.inr (Or.inr (Or.inl ⟨rfl, rfl⟩)))), (fun h => by cases h), rfl, by decide, ji_Army_ini, by decide, by decide⟩
set_option maxRecDepth 100000 in
theorem jk_Army_waysToStay_w : Cond.code ⟨"OppositeThreads$Army", "waysToStay", "(III)I"⟩ prog_2_method_25_code 8 (some Jvm.ClassFile.FieldType.int) ∈ jx_G := jx_mem 551 rfl (by decide +kernel)
theorem jk_Army_waysToStay : jx_okM jx_nm 24 jm_Army_waysToStay (⟨"OppositeThreads$Army", "waysToStay", "(III)I"⟩, prog_2_method_25_code, (some Jvm.ClassFile.FieldType.int)) := ⟨by decide, jd_Army_waysToStay, jo_Army, ji_Army_inic, (fun h => by cases h), jk_Army_waysToStay_w, Or.inr (Or.inl ⟨rfl, rfl⟩), (fun h => by cases h), rfl, by decide, ji_Army_ini, by decide, by decide⟩
set_option maxRecDepth 100000 in
theorem jk_Army_hitsOf_w : Cond.code ⟨"OppositeThreads$Army", "hitsOf", "(I)I"⟩ prog_2_method_26_code 4 (some Jvm.ClassFile.FieldType.int) ∈ jx_G := jx_mem 555 rfl (by decide +kernel)
theorem jk_Army_hitsOf : jx_okM jx_nm 25 jm_Army_hitsOf (⟨"OppositeThreads$Army", "hitsOf", "(I)I"⟩, prog_2_method_26_code, (some Jvm.ClassFile.FieldType.int)) := ⟨by decide, jd_Army_hitsOf, jo_Army, ji_Army_inic, (fun h => by cases h), jk_Army_hitsOf_w, Or.inr (Or.inl ⟨rfl, rfl⟩), (fun h => by cases h), rfl, by decide, ji_Army_ini, by decide, by decide⟩
set_option maxRecDepth 100000 in
theorem jk_Army_powerOf_w : Cond.code ⟨"OppositeThreads$Army", "powerOf", "(II)I"⟩ prog_2_method_27_code 4 (some Jvm.ClassFile.FieldType.int) ∈ jx_G := jx_mem 564 rfl (by decide +kernel)
theorem jk_Army_powerOf : jx_okM jx_nm 26 jm_Army_powerOf (⟨"OppositeThreads$Army", "powerOf", "(II)I"⟩, prog_2_method_27_code, (some Jvm.ClassFile.FieldType.int)) := ⟨by decide, jd_Army_powerOf, jo_Army, ji_Army_inic, (fun h => by cases h), jk_Army_powerOf_w, Or.inr (Or.inl ⟨rfl, rfl⟩), (fun h => by cases h), rfl, by decide, ji_Army_ini, by decide, by decide⟩
theorem ji_Kinds_ini : Cond.initialized "OppositeThreads$Kinds" ∈ jx_G := jx_mem 63 (by decide +kernel) (by decide +kernel)
theorem ji_Kinds_inic : jx_cno 30 "OppositeThreads$Kinds" := fun r h => by cases h
set_option maxRecDepth 100000 in
theorem jk_Kinds_hitOf_w : Cond.code ⟨"OppositeThreads$Kinds", "hitOf", "(I)I"⟩ prog_3_method_2_code 1 (some Jvm.ClassFile.FieldType.int) ∈ jx_G := jx_mem 418 rfl (by decide +kernel)
theorem jk_Kinds_hitOf : jx_okM jx_nm 27 jm_Kinds_hitOf (⟨"OppositeThreads$Kinds", "hitOf", "(I)I"⟩, prog_3_method_2_code, (some Jvm.ClassFile.FieldType.int)) := ⟨by decide, jd_Kinds_hitOf, jo_Kinds, ji_Kinds_inic, (fun h => by cases h), jk_Kinds_hitOf_w, Or.inr (Or.inl ⟨rfl, rfl⟩), (fun h => by cases h), rfl, by decide, ji_Kinds_ini, by decide, by decide⟩
set_option maxRecDepth 100000 in
theorem jk_Kinds_aimOn_w : Cond.code ⟨"OppositeThreads$Kinds", "aimOn", "(IZ)I"⟩ prog_3_method_3_code 2 (some Jvm.ClassFile.FieldType.int) ∈ jx_G := jx_mem 397 rfl (by decide +kernel)
theorem jk_Kinds_aimOn : jx_okM jx_nm 28 jm_Kinds_aimOn (⟨"OppositeThreads$Kinds", "aimOn", "(IZ)I"⟩, prog_3_method_3_code, (some Jvm.ClassFile.FieldType.int)) := ⟨by decide, jd_Kinds_aimOn, jo_Kinds, ji_Kinds_inic, (fun h => by cases h), jk_Kinds_aimOn_w, Or.inr (Or.inl ⟨rfl, rfl⟩), (fun h => by cases h), rfl, by decide, ji_Kinds_ini, by decide, by decide⟩
set_option maxRecDepth 100000 in
theorem jk_Kinds_isOne_w : Cond.code ⟨"OppositeThreads$Kinds", "isOne", "(II)Z"⟩ prog_3_method_4_code 4 (some Jvm.ClassFile.FieldType.boolean) ∈ jx_G := jx_mem 429 rfl (by decide +kernel)
theorem jk_Kinds_isOne : jx_okM jx_nm 29 jm_Kinds_isOne (⟨"OppositeThreads$Kinds", "isOne", "(II)Z"⟩, prog_3_method_4_code, (some Jvm.ClassFile.FieldType.boolean)) := ⟨by decide, jd_Kinds_isOne, jo_Kinds, ji_Kinds_inic, (fun h => by cases h), jk_Kinds_isOne_w, Or.inr (Or.inr (Or.inr (Or.inr (Or.inl ⟨rfl, rfl⟩)))), (fun h => by cases h), rfl, by decide, ji_Kinds_ini, by decide, by decide⟩
theorem ji_Past_ini : Cond.initialized "OppositeThreads$Past" ∈ jx_G := jx_mem 54 (by decide +kernel) (by decide +kernel)
theorem ji_Past_inic : jx_cno 1 "OppositeThreads$Past" := fun r h => by cases h; rfl
set_option maxRecDepth 100000 in
theorem jk_Past_init_w : Cond.code ⟨"OppositeThreads$Past", "<init>", "()V"⟩ prog_4_method_1_code 2 none ∈ jx_G := jx_mem 150 rfl (by decide +kernel)
theorem jk_Past_init : jx_okM jx_nm 30 jm_Past_init (⟨"OppositeThreads$Past", "<init>", "()V"⟩, prog_4_method_1_code, none) := ⟨by decide, jd_Past_init, jo_Past, ji_Past_inic, (fun h => by cases h), jk_Past_init_w, Or.inl ⟨rfl, rfl⟩, (fun _ => rfl), rfl, by decide, ji_Past_ini, by decide, by decide⟩
set_option maxRecDepth 100000 in
theorem jk_Past_clear_w : Cond.code ⟨"OppositeThreads$Past", "clear", "()V"⟩ prog_4_method_2_code 1 none ∈ jx_G := jx_mem 376 rfl (by decide +kernel)
theorem jk_Past_clear : jx_okM jx_nm 31 jm_Past_clear (⟨"OppositeThreads$Past", "clear", "()V"⟩, prog_4_method_2_code, none) := ⟨by decide, jd_Past_clear, jo_Past, ji_Past_inic, (fun h => by cases h), jk_Past_clear_w, Or.inl ⟨rfl, rfl⟩, (fun h => by cases h), rfl, by decide, ji_Past_ini, by decide, by decide⟩
set_option maxRecDepth 100000 in
theorem jk_Past_remember_w : Cond.code ⟨"OppositeThreads$Past", "remember", "(LOppositeThreads$Army;)V"⟩ prog_4_method_3_code 2 none ∈ jx_G := jx_mem 439 rfl (by decide +kernel)
theorem jk_Past_remember : jx_okM jx_nm 32 jm_Past_remember (⟨"OppositeThreads$Past", "remember", "(LOppositeThreads$Army;)V"⟩, prog_4_method_3_code, none) := ⟨by decide, jd_Past_remember, jo_Past, ji_Past_inic, (fun h => by cases h), jk_Past_remember_w, Or.inl ⟨rfl, rfl⟩, (fun h => by cases h), rfl, by decide, ji_Past_ini, by decide, by decide⟩
set_option maxRecDepth 100000 in
theorem jk_Past_restore_w : Cond.code ⟨"OppositeThreads$Past", "restore", "(LOppositeThreads$Army;)Z"⟩ prog_4_method_4_code 2 (some Jvm.ClassFile.FieldType.boolean) ∈ jx_G := jx_mem 476 rfl (by decide +kernel)
theorem jk_Past_restore : jx_okM jx_nm 33 jm_Past_restore (⟨"OppositeThreads$Past", "restore", "(LOppositeThreads$Army;)Z"⟩, prog_4_method_4_code, (some Jvm.ClassFile.FieldType.boolean)) := ⟨by decide, jd_Past_restore, jo_Past, ji_Past_inic, (fun h => by cases h), jk_Past_restore_w, Or.inr (Or.inr (Or.inr (Or.inr (Or.inl ⟨rfl, rfl⟩)))), (fun h => by cases h), rfl, by decide, ji_Past_ini, by decide, by decide⟩
theorem ji_Sheet_ini : Cond.initialized "OppositeThreads$Sheet" ∈ jx_G := jx_mem 56 (by decide +kernel) (by decide +kernel)
theorem ji_Sheet_inic : jx_cno 2 "OppositeThreads$Sheet" := fun r h => by cases h; rfl
set_option maxRecDepth 100000 in
theorem jk_Sheet_init_w : Cond.code ⟨"OppositeThreads$Sheet", "<init>", "()V"⟩ prog_5_method_1_code 1 none ∈ jx_G := jx_mem 189 rfl (by decide +kernel)
theorem jk_Sheet_init : jx_okM jx_nm 34 jm_Sheet_init (⟨"OppositeThreads$Sheet", "<init>", "()V"⟩, prog_5_method_1_code, none) := ⟨by decide, jd_Sheet_init, jo_Sheet, ji_Sheet_inic, (fun h => by cases h), jk_Sheet_init_w, Or.inl ⟨rfl, rfl⟩, (fun _ => rfl), rfl, by decide, ji_Sheet_ini, by decide, by decide⟩
set_option maxRecDepth 100000 in
theorem jk_Sheet_isMissing_w : Cond.code ⟨"OppositeThreads$Sheet", "isMissing", "()Z"⟩ prog_5_method_2_code 1 (some Jvm.ClassFile.FieldType.boolean) ∈ jx_G := jx_mem 645 rfl (by decide +kernel)
theorem jk_Sheet_isMissing : jx_okM jx_nm 35 jm_Sheet_isMissing (⟨"OppositeThreads$Sheet", "isMissing", "()Z"⟩, prog_5_method_2_code, (some Jvm.ClassFile.FieldType.boolean)) := ⟨by decide, jd_Sheet_isMissing, jo_Sheet, ji_Sheet_inic, (fun h => by cases h), jk_Sheet_isMissing_w, Or.inr (Or.inr (Or.inr (Or.inr (Or.inl ⟨rfl, rfl⟩)))), (fun h => by cases h), rfl, by decide, ji_Sheet_ini, by decide, by decide⟩
set_option maxRecDepth 100000 in
theorem jk_Sheet_begin_w : Cond.code ⟨"OppositeThreads$Sheet", "begin", "(II)V"⟩ prog_5_method_3_code 4 none ∈ jx_G := jx_mem 632 rfl (by decide +kernel)
theorem jk_Sheet_begin : jx_okM jx_nm 36 jm_Sheet_begin (⟨"OppositeThreads$Sheet", "begin", "(II)V"⟩, prog_5_method_3_code, none) := ⟨by decide, jd_Sheet_begin, jo_Sheet, ji_Sheet_inic, (fun h => by cases h), jk_Sheet_begin_w, Or.inl ⟨rfl, rfl⟩, (fun h => by cases h), rfl, by decide, ji_Sheet_ini, by decide, by decide⟩
set_option maxRecDepth 100000 in
theorem jk_Sheet_lose_w : Cond.code ⟨"OppositeThreads$Sheet", "lose", "()V"⟩ prog_5_method_4_code 1 none ∈ jx_G := jx_mem 380 rfl (by decide +kernel)
theorem jk_Sheet_lose : jx_okM jx_nm 37 jm_Sheet_lose (⟨"OppositeThreads$Sheet", "lose", "()V"⟩, prog_5_method_4_code, none) := ⟨by decide, jd_Sheet_lose, jo_Sheet, ji_Sheet_inic, (fun h => by cases h), jk_Sheet_lose_w, Or.inl ⟨rfl, rfl⟩, (fun h => by cases h), rfl, by decide, ji_Sheet_ini, by decide, by decide⟩
set_option maxRecDepth 100000 in
theorem jk_Sheet_holds_w : Cond.code ⟨"OppositeThreads$Sheet", "holds", "(II)Z"⟩ prog_5_method_5_code 3 (some Jvm.ClassFile.FieldType.boolean) ∈ jx_G := jx_mem 649 rfl (by decide +kernel)
theorem jk_Sheet_holds : jx_okM jx_nm 38 jm_Sheet_holds (⟨"OppositeThreads$Sheet", "holds", "(II)Z"⟩, prog_5_method_5_code, (some Jvm.ClassFile.FieldType.boolean)) := ⟨by decide, jd_Sheet_holds, jo_Sheet, ji_Sheet_inic, (fun h => by cases h), jk_Sheet_holds_w, Or.inr (Or.inr (Or.inr (Or.inr (Or.inl ⟨rfl, rfl⟩)))), (fun h => by cases h), rfl, by decide, ji_Sheet_ini, by decide, by decide⟩
set_option maxRecDepth 100000 in
theorem jk_Sheet_total_w : Cond.code ⟨"OppositeThreads$Sheet", "total", "()J"⟩ prog_5_method_6_code 4 (some Jvm.ClassFile.FieldType.long) ∈ jx_G := jx_mem 672 rfl (by decide +kernel)
theorem jk_Sheet_total : jx_okM jx_nm 39 jm_Sheet_total (⟨"OppositeThreads$Sheet", "total", "()J"⟩, prog_5_method_6_code, (some Jvm.ClassFile.FieldType.long)) := ⟨by decide, jd_Sheet_total, jo_Sheet, ji_Sheet_inic, (fun h => by cases h), jk_Sheet_total_w, Or.inr (Or.inr (Or.inl ⟨rfl, rfl⟩)), (fun h => by cases h), rfl, by decide, ji_Sheet_ini, by decide, by decide⟩
theorem ji_Sightings_ini : Cond.initialized "OppositeThreads$Sightings" ∈ jx_G := jx_mem 55 (by decide +kernel) (by decide +kernel)
theorem ji_Sightings_inic : jx_cno 3 "OppositeThreads$Sightings" := fun r h => by cases h; rfl
set_option maxRecDepth 100000 in
theorem jk_Sightings_init_w : Cond.code ⟨"OppositeThreads$Sightings", "<init>", "()V"⟩ prog_6_method_1_code 1 none ∈ jx_G := jx_mem 170 rfl (by decide +kernel)
theorem jk_Sightings_init : jx_okM jx_nm 40 jm_Sightings_init (⟨"OppositeThreads$Sightings", "<init>", "()V"⟩, prog_6_method_1_code, none) := ⟨by decide, jd_Sightings_init, jo_Sightings, ji_Sightings_inic, (fun h => by cases h), jk_Sightings_init_w, Or.inl ⟨rfl, rfl⟩, (fun _ => rfl), rfl, by decide, ji_Sightings_ini, by decide, by decide⟩
set_option maxRecDepth 100000 in
theorem jk_Sightings_add_w : Cond.code ⟨"OppositeThreads$Sightings", "add", "(III)Z"⟩ prog_6_method_2_code 4 (some Jvm.ClassFile.FieldType.boolean) ∈ jx_G := jx_mem 577 rfl (by decide +kernel)
theorem jk_Sightings_add : jx_okM jx_nm 41 jm_Sightings_add (⟨"OppositeThreads$Sightings", "add", "(III)Z"⟩, prog_6_method_2_code, (some Jvm.ClassFile.FieldType.boolean)) := ⟨by decide, jd_Sightings_add, jo_Sightings, ji_Sightings_inic, (fun h => by cases h), jk_Sightings_add_w, Or.inr (Or.inr (Or.inr (Or.inr (Or.inl ⟨rfl, rfl⟩)))), (fun h => by cases h), rfl, by decide, ji_Sightings_ini, by decide, by decide⟩
set_option maxRecDepth 100000 in
theorem jk_Sightings_sightOf_w : Cond.code ⟨"OppositeThreads$Sightings", "sightOf", "(II)I"⟩ prog_6_method_3_code 2 (some Jvm.ClassFile.FieldType.int) ∈ jx_G := jx_mem 580 rfl (by decide +kernel)
theorem jk_Sightings_sightOf : jx_okM jx_nm 42 jm_Sightings_sightOf (⟨"OppositeThreads$Sightings", "sightOf", "(II)I"⟩, prog_6_method_3_code, (some Jvm.ClassFile.FieldType.int)) := ⟨by decide, jd_Sightings_sightOf, jo_Sightings, ji_Sightings_inic, (fun h => by cases h), jk_Sightings_sightOf_w, Or.inr (Or.inl ⟨rfl, rfl⟩), (fun h => by cases h), rfl, by decide, ji_Sightings_ini, by decide, by decide⟩
set_option maxRecDepth 100000 in
theorem jk_Sightings_sightOfKind_w : Cond.code ⟨"OppositeThreads$Sightings", "sightOfKind", "(II)I"⟩ prog_6_method_4_code 3 (some Jvm.ClassFile.FieldType.int) ∈ jx_G := jx_mem 599 rfl (by decide +kernel)
theorem jk_Sightings_sightOfKind : jx_okM jx_nm 43 jm_Sightings_sightOfKind (⟨"OppositeThreads$Sightings", "sightOfKind", "(II)I"⟩, prog_6_method_4_code, (some Jvm.ClassFile.FieldType.int)) := ⟨by decide, jd_Sightings_sightOfKind, jo_Sightings, ji_Sightings_inic, (fun h => by cases h), jk_Sightings_sightOfKind_w, Or.inr (Or.inl ⟨rfl, rfl⟩), (fun h => by cases h), rfl, by decide, ji_Sightings_ini, by decide, by decide⟩
set_option maxRecDepth 100000 in
theorem jk_Sightings_fits_w : Cond.code ⟨"OppositeThreads$Sightings", "fits", "(I)Z"⟩ prog_6_method_5_code 3 (some Jvm.ClassFile.FieldType.boolean) ∈ jx_G := jx_mem 596 rfl (by decide +kernel)
theorem jk_Sightings_fits : jx_okM jx_nm 44 jm_Sightings_fits (⟨"OppositeThreads$Sightings", "fits", "(I)Z"⟩, prog_6_method_5_code, (some Jvm.ClassFile.FieldType.boolean)) := ⟨by decide, jd_Sightings_fits, jo_Sightings, ji_Sightings_inic, (fun h => by cases h), jk_Sightings_fits_w, Or.inr (Or.inr (Or.inr (Or.inr (Or.inl ⟨rfl, rfl⟩)))), (fun h => by cases h), rfl, by decide, ji_Sightings_ini, by decide, by decide⟩
set_option maxRecDepth 100000 in
theorem jk_Sightings_possibleKinds_w : Cond.code ⟨"OppositeThreads$Sightings", "possibleKinds", "()I"⟩ prog_6_method_6_code 3 (some Jvm.ClassFile.FieldType.int) ∈ jx_G := jx_mem 592 rfl (by decide +kernel)
theorem jk_Sightings_possibleKinds : jx_okM jx_nm 45 jm_Sightings_possibleKinds (⟨"OppositeThreads$Sightings", "possibleKinds", "()I"⟩, prog_6_method_6_code, (some Jvm.ClassFile.FieldType.int)) := ⟨by decide, jd_Sightings_possibleKinds, jo_Sightings, ji_Sightings_inic, (fun h => by cases h), jk_Sightings_possibleKinds_w, Or.inr (Or.inl ⟨rfl, rfl⟩), (fun h => by cases h), rfl, by decide, ji_Sightings_ini, by decide, by decide⟩
set_option maxRecDepth 100000 in
theorem jk_Sightings_bestDay_w : Cond.code ⟨"OppositeThreads$Sightings", "bestDay", "()I"⟩ prog_6_method_7_code 6 (some Jvm.ClassFile.FieldType.int) ∈ jx_G := jx_mem 609 rfl (by decide +kernel)
theorem jk_Sightings_bestDay : jx_okM jx_nm 46 jm_Sightings_bestDay (⟨"OppositeThreads$Sightings", "bestDay", "()I"⟩, prog_6_method_7_code, (some Jvm.ClassFile.FieldType.int)) := ⟨by decide, jd_Sightings_bestDay, jo_Sightings, ji_Sightings_inic, (fun h => by cases h), jk_Sightings_bestDay_w, Or.inr (Or.inl ⟨rfl, rfl⟩), (fun h => by cases h), rfl, by decide, ji_Sightings_ini, by decide, by decide⟩
set_option maxRecDepth 100000 in
theorem jk_Sightings_greatestPart_w : Cond.code ⟨"OppositeThreads$Sightings", "greatestPart", "(II)I"⟩ prog_6_method_8_code 4 (some Jvm.ClassFile.FieldType.int) ∈ jx_G := jx_mem 614 rfl (by decide +kernel)
theorem jk_Sightings_greatestPart : jx_okM jx_nm 47 jm_Sightings_greatestPart (⟨"OppositeThreads$Sightings", "greatestPart", "(II)I"⟩, prog_6_method_8_code, (some Jvm.ClassFile.FieldType.int)) := ⟨by decide, jd_Sightings_greatestPart, jo_Sightings, ji_Sightings_inic, (fun h => by cases h), jk_Sightings_greatestPart_w, Or.inr (Or.inl ⟨rfl, rfl⟩), (fun h => by cases h), rfl, by decide, ji_Sightings_ini, by decide, by decide⟩
set_option maxRecDepth 100000 in
theorem jk_Sightings_alikeTo_w : Cond.code ⟨"OppositeThreads$Sightings", "alikeTo", "(III)I"⟩ prog_6_method_9_code 5 (some Jvm.ClassFile.FieldType.int) ∈ jx_G := jx_mem 617 rfl (by decide +kernel)
theorem jk_Sightings_alikeTo : jx_okM jx_nm 48 jm_Sightings_alikeTo (⟨"OppositeThreads$Sightings", "alikeTo", "(III)I"⟩, prog_6_method_9_code, (some Jvm.ClassFile.FieldType.int)) := ⟨by decide, jd_Sightings_alikeTo, jo_Sightings, ji_Sightings_inic, (fun h => by cases h), jk_Sightings_alikeTo_w, Or.inr (Or.inl ⟨rfl, rfl⟩), (fun h => by cases h), rfl, by decide, ji_Sightings_ini, by decide, by decide⟩
theorem ji_Text_ini : Cond.initialized "OppositeThreads$Text" ∈ jx_G := jx_mem 53 (by decide +kernel) (by decide +kernel)
theorem ji_Text_inic : jx_cno 4 "OppositeThreads$Text" := fun r h => by cases h; rfl
set_option maxRecDepth 100000 in
theorem jk_Text_init_w : Cond.code ⟨"OppositeThreads$Text", "<init>", "()V"⟩ prog_7_method_1_code 1 none ∈ jx_G := jx_mem 119 rfl (by decide +kernel)
theorem jk_Text_init : jx_okM jx_nm 49 jm_Text_init (⟨"OppositeThreads$Text", "<init>", "()V"⟩, prog_7_method_1_code, none) := ⟨by decide, jd_Text_init, jo_Text, ji_Text_inic, (fun h => by cases h), jk_Text_init_w, Or.inl ⟨rfl, rfl⟩, (fun _ => rfl), rfl, by decide, ji_Text_ini, by decide, by decide⟩
set_option maxRecDepth 100000 in
theorem jk_Text_add_w : Cond.code ⟨"OppositeThreads$Text", "add", "(C)Z"⟩ prog_7_method_2_code 2 (some Jvm.ClassFile.FieldType.boolean) ∈ jx_G := jx_mem 240 rfl (by decide +kernel)
theorem jk_Text_add : jx_okM jx_nm 50 jm_Text_add (⟨"OppositeThreads$Text", "add", "(C)Z"⟩, prog_7_method_2_code, (some Jvm.ClassFile.FieldType.boolean)) := ⟨by decide, jd_Text_add, jo_Text, ji_Text_inic, (fun h => by cases h), jk_Text_add_w, Or.inr (Or.inr (Or.inr (Or.inr (Or.inl ⟨rfl, rfl⟩)))), (fun h => by cases h), rfl, by decide, ji_Text_ini, by decide, by decide⟩
set_option maxRecDepth 100000 in
theorem jk_Text_readOnto_w : Cond.code ⟨"OppositeThreads$Text", "readOnto", "(LOppositeThreads$Army;)I"⟩ prog_7_method_3_code 3 (some Jvm.ClassFile.FieldType.int) ∈ jx_G := jx_mem 252 rfl (by decide +kernel)
theorem jk_Text_readOnto : jx_okM jx_nm 51 jm_Text_readOnto (⟨"OppositeThreads$Text", "readOnto", "(LOppositeThreads$Army;)I"⟩, prog_7_method_3_code, (some Jvm.ClassFile.FieldType.int)) := ⟨by decide, jd_Text_readOnto, jo_Text, ji_Text_inic, (fun h => by cases h), jk_Text_readOnto_w, Or.inr (Or.inl ⟨rfl, rfl⟩), (fun h => by cases h), rfl, by decide, ji_Text_ini, by decide, by decide⟩
set_option maxRecDepth 100000 in
theorem jk_Text_readClause_w : Cond.code ⟨"OppositeThreads$Text", "readClause", "()Z"⟩ prog_7_method_4_code 3 (some Jvm.ClassFile.FieldType.boolean) ∈ jx_G := jx_mem 263 rfl (by decide +kernel)
theorem jk_Text_readClause : jx_okM jx_nm 52 jm_Text_readClause (⟨"OppositeThreads$Text", "readClause", "()Z"⟩, prog_7_method_4_code, (some Jvm.ClassFile.FieldType.boolean)) := ⟨by decide, jd_Text_readClause, jo_Text, ji_Text_inic, (fun h => by cases h), jk_Text_readClause_w, Or.inr (Or.inr (Or.inr (Or.inr (Or.inl ⟨rfl, rfl⟩)))), (fun h => by cases h), rfl, by decide, ji_Text_ini, by decide, by decide⟩
set_option maxRecDepth 100000 in
theorem jk_Text_readArmy_w : Cond.code ⟨"OppositeThreads$Text", "readArmy", "()Z"⟩ prog_7_method_5_code 2 (some Jvm.ClassFile.FieldType.boolean) ∈ jx_G := jx_mem 341 rfl (by decide +kernel)
theorem jk_Text_readArmy : jx_okM jx_nm 53 jm_Text_readArmy (⟨"OppositeThreads$Text", "readArmy", "()Z"⟩, prog_7_method_5_code, (some Jvm.ClassFile.FieldType.boolean)) := ⟨by decide, jd_Text_readArmy, jo_Text, ji_Text_inic, (fun h => by cases h), jk_Text_readArmy_w, Or.inr (Or.inr (Or.inr (Or.inr (Or.inl ⟨rfl, rfl⟩)))), (fun h => by cases h), rfl, by decide, ji_Text_ini, by decide, by decide⟩
set_option maxRecDepth 100000 in
theorem jk_Text_readButtons_w : Cond.code ⟨"OppositeThreads$Text", "readButtons", "(I)Z"⟩ prog_7_method_6_code 3 (some Jvm.ClassFile.FieldType.boolean) ∈ jx_G := jx_mem 354 rfl (by decide +kernel)
theorem jk_Text_readButtons : jx_okM jx_nm 54 jm_Text_readButtons (⟨"OppositeThreads$Text", "readButtons", "(I)Z"⟩, prog_7_method_6_code, (some Jvm.ClassFile.FieldType.boolean)) := ⟨by decide, jd_Text_readButtons, jo_Text, ji_Text_inic, (fun h => by cases h), jk_Text_readButtons_w, Or.inr (Or.inr (Or.inr (Or.inr (Or.inl ⟨rfl, rfl⟩)))), (fun h => by cases h), rfl, by decide, ji_Text_ini, by decide, by decide⟩
set_option maxRecDepth 100000 in
theorem jk_Text_readMender_w : Cond.code ⟨"OppositeThreads$Text", "readMender", "(I)Z"⟩ prog_7_method_7_code 4 (some Jvm.ClassFile.FieldType.boolean) ∈ jx_G := jx_mem 358 rfl (by decide +kernel)
theorem jk_Text_readMender : jx_okM jx_nm 55 jm_Text_readMender (⟨"OppositeThreads$Text", "readMender", "(I)Z"⟩, prog_7_method_7_code, (some Jvm.ClassFile.FieldType.boolean)) := ⟨by decide, jd_Text_readMender, jo_Text, ji_Text_inic, (fun h => by cases h), jk_Text_readMender_w, Or.inr (Or.inr (Or.inr (Or.inr (Or.inl ⟨rfl, rfl⟩)))), (fun h => by cases h), rfl, by decide, ji_Text_ini, by decide, by decide⟩
set_option maxRecDepth 100000 in
theorem jk_Text_readWord_w : Cond.code ⟨"OppositeThreads$Text", "readWord", "()I"⟩ prog_7_method_8_code 2 (some Jvm.ClassFile.FieldType.int) ∈ jx_G := jx_mem 267 rfl (by decide +kernel)
theorem jk_Text_readWord : jx_okM jx_nm 56 jm_Text_readWord (⟨"OppositeThreads$Text", "readWord", "()I"⟩, prog_7_method_8_code, (some Jvm.ClassFile.FieldType.int)) := ⟨by decide, jd_Text_readWord, jo_Text, ji_Text_inic, (fun h => by cases h), jk_Text_readWord_w, Or.inr (Or.inl ⟨rfl, rfl⟩), (fun h => by cases h), rfl, by decide, ji_Text_ini, by decide, by decide⟩
set_option maxRecDepth 100000 in
theorem jk_Text_wordOf_w : Cond.code ⟨"OppositeThreads$Text", "wordOf", "(I)Ljava/lang/String;"⟩ prog_7_method_9_code 1 (some (.object "java/lang/String")) ∈ jx_G := jx_mem 277 rfl (by decide +kernel)
theorem jk_Text_wordOf : jx_okM jx_nm 57 jm_Text_wordOf (⟨"OppositeThreads$Text", "wordOf", "(I)Ljava/lang/String;"⟩, prog_7_method_9_code, (some (.object "java/lang/String"))) := ⟨by decide, jd_Text_wordOf, jo_Text, ji_Text_inic, (fun h => by cases h), jk_Text_wordOf_w, Or.inr (Or.inr (Or.inr (Or.inl ⟨rfl, _, rfl⟩))), (fun h => by cases h), rfl, by decide, ji_Text_ini, by decide, by decide⟩
set_option maxRecDepth 100000 in
theorem jk_Text_isToken_w : Cond.code ⟨"OppositeThreads$Text", "isToken", "(Ljava/lang/String;)Z"⟩ prog_7_method_10_code 3 (some Jvm.ClassFile.FieldType.boolean) ∈ jx_G := jx_mem 289 rfl (by decide +kernel)
theorem jk_Text_isToken : jx_okM jx_nm 58 jm_Text_isToken (⟨"OppositeThreads$Text", "isToken", "(Ljava/lang/String;)Z"⟩, prog_7_method_10_code, (some Jvm.ClassFile.FieldType.boolean)) := ⟨by decide, jd_Text_isToken, jo_Text, ji_Text_inic, (fun h => by cases h), jk_Text_isToken_w, Or.inr (Or.inr (Or.inr (Or.inr (Or.inl ⟨rfl, rfl⟩)))), (fun h => by cases h), rfl, by decide, ji_Text_ini, by decide, by decide⟩
set_option maxRecDepth 100000 in
theorem jk_Text_readNumber_w : Cond.code ⟨"OppositeThreads$Text", "readNumber", "(II)I"⟩ prog_7_method_11_code 5 (some Jvm.ClassFile.FieldType.int) ∈ jx_G := jx_mem 345 rfl (by decide +kernel)
theorem jk_Text_readNumber : jx_okM jx_nm 59 jm_Text_readNumber (⟨"OppositeThreads$Text", "readNumber", "(II)I"⟩, prog_7_method_11_code, (some Jvm.ClassFile.FieldType.int)) := ⟨by decide, jd_Text_readNumber, jo_Text, ji_Text_inic, (fun h => by cases h), jk_Text_readNumber_w, Or.inr (Or.inl ⟨rfl, rfl⟩), (fun h => by cases h), rfl, by decide, ji_Text_ini, by decide, by decide⟩
set_option maxRecDepth 100000 in
theorem jk_Text_nextToken_w : Cond.code ⟨"OppositeThreads$Text", "nextToken", "()V"⟩ prog_7_method_12_code 2 none ∈ jx_G := jx_mem 271 rfl (by decide +kernel)
theorem jk_Text_nextToken : jx_okM jx_nm 60 jm_Text_nextToken (⟨"OppositeThreads$Text", "nextToken", "()V"⟩, prog_7_method_12_code, none) := ⟨by decide, jd_Text_nextToken, jo_Text, ji_Text_inic, (fun h => by cases h), jk_Text_nextToken_w, Or.inl ⟨rfl, rfl⟩, (fun h => by cases h), rfl, by decide, ji_Text_ini, by decide, by decide⟩
set_option maxRecDepth 100000 in
theorem jk_Text_sortOf_w : Cond.code ⟨"OppositeThreads$Text", "sortOf", "(C)I"⟩ prog_7_method_13_code 1 (some Jvm.ClassFile.FieldType.int) ∈ jx_G := jx_mem 274 rfl (by decide +kernel)
theorem jk_Text_sortOf : jx_okM jx_nm 61 jm_Text_sortOf (⟨"OppositeThreads$Text", "sortOf", "(C)I"⟩, prog_7_method_13_code, (some Jvm.ClassFile.FieldType.int)) := ⟨by decide, jd_Text_sortOf, jo_Text, ji_Text_inic, (fun h => by cases h), jk_Text_sortOf_w, Or.inr (Or.inl ⟨rfl, rfl⟩), (fun h => by cases h), rfl, by decide, ji_Text_ini, by decide, by decide⟩
theorem ji_Main_ini : Cond.initialized "OppositeThreads" ∈ jx_G := jx_mem 50 (by decide +kernel) (by decide +kernel)
theorem ji_Main_inic : jx_cno 5 "OppositeThreads" := fun r h => by cases h; rfl
set_option maxRecDepth 100000 in
theorem jk_Main_init_w : Cond.code ⟨"OppositeThreads", "<init>", "()V"⟩ prog_1_method_1_code 2 none ∈ jx_G := jx_mem 69 rfl (by decide +kernel)
theorem jk_Main_init : jx_okM jx_nm 62 jm_Main_init (⟨"OppositeThreads", "<init>", "()V"⟩, prog_1_method_1_code, none) := ⟨by decide, jd_Main_init, jo_Main, ji_Main_inic, (fun h => by cases h), jk_Main_init_w, Or.inl ⟨rfl, rfl⟩, (fun _ => rfl), rfl, by decide, ji_Main_ini, by decide, by decide⟩
set_option maxRecDepth 100000 in
theorem jk_Main_write_w : Cond.code ⟨"OppositeThreads", "write", "(I)I"⟩ prog_1_method_2_code 2 (some Jvm.ClassFile.FieldType.int) ∈ jx_G := jx_mem 236 rfl (by decide +kernel)
theorem jk_Main_write : jx_okM jx_nm 63 jm_Main_write (⟨"OppositeThreads", "write", "(I)I"⟩, prog_1_method_2_code, (some Jvm.ClassFile.FieldType.int)) := ⟨by decide, jd_Main_write, jo_Main, ji_Main_inic, (fun h => by cases h), jk_Main_write_w, Or.inr (Or.inl ⟨rfl, rfl⟩), (fun h => by cases h), rfl, by decide, ji_Main_ini, by decide, by decide⟩
set_option maxRecDepth 100000 in
theorem jk_Main_erase_w : Cond.code ⟨"OppositeThreads", "erase", "()I"⟩ prog_1_method_3_code 2 (some Jvm.ClassFile.FieldType.int) ∈ jx_G := jx_mem 244 rfl (by decide +kernel)
theorem jk_Main_erase : jx_okM jx_nm 64 jm_Main_erase (⟨"OppositeThreads", "erase", "()I"⟩, prog_1_method_3_code, (some Jvm.ClassFile.FieldType.int)) := ⟨by decide, jd_Main_erase, jo_Main, ji_Main_inic, (fun h => by cases h), jk_Main_erase_w, Or.inr (Or.inl ⟨rfl, rfl⟩), (fun h => by cases h), rfl, by decide, ji_Main_ini, by decide, by decide⟩
set_option maxRecDepth 100000 in
theorem jk_Main_fault_w : Cond.code ⟨"OppositeThreads", "fault", "()I"⟩ prog_1_method_4_code 1 (some Jvm.ClassFile.FieldType.int) ∈ jx_G := jx_mem 248 rfl (by decide +kernel)
theorem jk_Main_fault : jx_okM jx_nm 65 jm_Main_fault (⟨"OppositeThreads", "fault", "()I"⟩, prog_1_method_4_code, (some Jvm.ClassFile.FieldType.int)) := ⟨by decide, jd_Main_fault, jo_Main, ji_Main_inic, (fun h => by cases h), jk_Main_fault_w, Or.inr (Or.inl ⟨rfl, rfl⟩), (fun h => by cases h), rfl, by decide, ji_Main_ini, by decide, by decide⟩
set_option maxRecDepth 100000 in
theorem jk_Main_army_w : Cond.code ⟨"OppositeThreads", "army", "()I"⟩ prog_1_method_5_code 2 (some Jvm.ClassFile.FieldType.int) ∈ jx_G := jx_mem 371 rfl (by decide +kernel)
theorem jk_Main_army : jx_okM jx_nm 66 jm_Main_army (⟨"OppositeThreads", "army", "()I"⟩, prog_1_method_5_code, (some Jvm.ClassFile.FieldType.int)) := ⟨by decide, jd_Main_army, jo_Main, ji_Main_inic, (fun h => by cases h), jk_Main_army_w, Or.inr (Or.inl ⟨rfl, rfl⟩), (fun h => by cases h), rfl, by decide, ji_Main_ini, by decide, by decide⟩
set_option maxRecDepth 100000 in
theorem jk_Main_man_w : Cond.code ⟨"OppositeThreads", "man", "(II)I"⟩ prog_1_method_6_code 3 (some Jvm.ClassFile.FieldType.int) ∈ jx_G := jx_mem 384 rfl (by decide +kernel)
theorem jk_Main_man : jx_okM jx_nm 67 jm_Main_man (⟨"OppositeThreads", "man", "(II)I"⟩, prog_1_method_6_code, (some Jvm.ClassFile.FieldType.int)) := ⟨by decide, jd_Main_man, jo_Main, ji_Main_inic, (fun h => by cases h), jk_Main_man_w, Or.inr (Or.inl ⟨rfl, rfl⟩), (fun h => by cases h), rfl, by decide, ji_Main_ini, by decide, by decide⟩
set_option maxRecDepth 100000 in
theorem jk_Main_as_w : Cond.code ⟨"OppositeThreads", "as", "(II)I"⟩ prog_1_method_7_code 3 (some Jvm.ClassFile.FieldType.int) ∈ jx_G := jx_mem 426 rfl (by decide +kernel)
theorem jk_Main_as : jx_okM jx_nm 68 jm_Main_as (⟨"OppositeThreads", "as", "(II)I"⟩, prog_1_method_7_code, (some Jvm.ClassFile.FieldType.int)) := ⟨by decide, jd_Main_as, jo_Main, ji_Main_inic, (fun h => by cases h), jk_Main_as_w, Or.inr (Or.inl ⟨rfl, rfl⟩), (fun h => by cases h), rfl, by decide, ji_Main_ini, by decide, by decide⟩
set_option maxRecDepth 100000 in
theorem jk_Main_day_w : Cond.code ⟨"OppositeThreads", "day", "(I)I"⟩ prog_1_method_8_code 2 (some Jvm.ClassFile.FieldType.int) ∈ jx_G := jx_mem 435 rfl (by decide +kernel)
theorem jk_Main_day : jx_okM jx_nm 69 jm_Main_day (⟨"OppositeThreads", "day", "(I)I"⟩, prog_1_method_8_code, (some Jvm.ClassFile.FieldType.int)) := ⟨by decide, jd_Main_day, jo_Main, ji_Main_inic, (fun h => by cases h), jk_Main_day_w, Or.inr (Or.inl ⟨rfl, rfl⟩), (fun h => by cases h), rfl, by decide, ji_Main_ini, by decide, by decide⟩
set_option maxRecDepth 100000 in
theorem jk_Main_mend_w : Cond.code ⟨"OppositeThreads", "mend", "(II)I"⟩ prog_1_method_9_code 4 (some Jvm.ClassFile.FieldType.int) ∈ jx_G := jx_mem 459 rfl (by decide +kernel)
theorem jk_Main_mend : jx_okM jx_nm 70 jm_Main_mend (⟨"OppositeThreads", "mend", "(II)I"⟩, prog_1_method_9_code, (some Jvm.ClassFile.FieldType.int)) := ⟨by decide, jd_Main_mend, jo_Main, ji_Main_inic, (fun h => by cases h), jk_Main_mend_w, Or.inr (Or.inl ⟨rfl, rfl⟩), (fun h => by cases h), rfl, by decide, ji_Main_ini, by decide, by decide⟩
set_option maxRecDepth 100000 in
theorem jk_Main_swap_w : Cond.code ⟨"OppositeThreads", "swap", "(II)I"⟩ prog_1_method_10_code 4 (some Jvm.ClassFile.FieldType.int) ∈ jx_G := jx_mem 468 rfl (by decide +kernel)
theorem jk_Main_swap : jx_okM jx_nm 71 jm_Main_swap (⟨"OppositeThreads", "swap", "(II)I"⟩, prog_1_method_10_code, (some Jvm.ClassFile.FieldType.int)) := ⟨by decide, jd_Main_swap, jo_Main, ji_Main_inic, (fun h => by cases h), jk_Main_swap_w, Or.inr (Or.inl ⟨rfl, rfl⟩), (fun h => by cases h), rfl, by decide, ji_Main_ini, by decide, by decide⟩
set_option maxRecDepth 100000 in
theorem jk_Main_undo_w : Cond.code ⟨"OppositeThreads", "undo", "()I"⟩ prog_1_method_11_code 1 (some Jvm.ClassFile.FieldType.int) ∈ jx_G := jx_mem 472 rfl (by decide +kernel)
theorem jk_Main_undo : jx_okM jx_nm 72 jm_Main_undo (⟨"OppositeThreads", "undo", "()I"⟩, prog_1_method_11_code, (some Jvm.ClassFile.FieldType.int)) := ⟨by decide, jd_Main_undo, jo_Main, ji_Main_inic, (fun h => by cases h), jk_Main_undo_w, Or.inr (Or.inl ⟨rfl, rfl⟩), (fun h => by cases h), rfl, by decide, ji_Main_ini, by decide, by decide⟩
set_option maxRecDepth 100000 in
theorem jk_Main_keep_w : Cond.code ⟨"OppositeThreads", "keep", "(I)I"⟩ prog_1_method_12_code 2 (some Jvm.ClassFile.FieldType.int) ∈ jx_G := jx_mem 480 rfl (by decide +kernel)
theorem jk_Main_keep : jx_okM jx_nm 73 jm_Main_keep (⟨"OppositeThreads", "keep", "(I)I"⟩, prog_1_method_12_code, (some Jvm.ClassFile.FieldType.int)) := ⟨by decide, jd_Main_keep, jo_Main, ji_Main_inic, (fun h => by cases h), jk_Main_keep_w, Or.inr (Or.inl ⟨rfl, rfl⟩), (fun h => by cases h), rfl, by decide, ji_Main_ini, by decide, by decide⟩
set_option maxRecDepth 100000 in
theorem jk_Main_back_w : Cond.code ⟨"OppositeThreads", "back", "(I)I"⟩ prog_1_method_13_code 2 (some Jvm.ClassFile.FieldType.int) ∈ jx_G := jx_mem 484 rfl (by decide +kernel)
theorem jk_Main_back : jx_okM jx_nm 74 jm_Main_back (⟨"OppositeThreads", "back", "(I)I"⟩, prog_1_method_13_code, (some Jvm.ClassFile.FieldType.int)) := ⟨by decide, jd_Main_back, jo_Main, ji_Main_inic, (fun h => by cases h), jk_Main_back_w, Or.inr (Or.inl ⟨rfl, rfl⟩), (fun h => by cases h), rfl, by decide, ji_Main_ini, by decide, by decide⟩
set_option maxRecDepth 100000 in
theorem jk_Main_behind_w : Cond.code ⟨"OppositeThreads", "behind", "(II)I"⟩ prog_1_method_14_code 3 (some Jvm.ClassFile.FieldType.int) ∈ jx_G := jx_mem 488 rfl (by decide +kernel)
theorem jk_Main_behind : jx_okM jx_nm 75 jm_Main_behind (⟨"OppositeThreads", "behind", "(II)I"⟩, prog_1_method_14_code, (some Jvm.ClassFile.FieldType.int)) := ⟨by decide, jd_Main_behind, jo_Main, ji_Main_inic, (fun h => by cases h), jk_Main_behind_w, Or.inr (Or.inl ⟨rfl, rfl⟩), (fun h => by cases h), rfl, by decide, ji_Main_ini, by decide, by decide⟩
set_option maxRecDepth 100000 in
theorem jk_Main_home_w : Cond.code ⟨"OppositeThreads", "home", "(I)I"⟩ prog_1_method_15_code 3 (some Jvm.ClassFile.FieldType.int) ∈ jx_G := jx_mem 492 rfl (by decide +kernel)
theorem jk_Main_home : jx_okM jx_nm 76 jm_Main_home (⟨"OppositeThreads", "home", "(I)I"⟩, prog_1_method_15_code, (some Jvm.ClassFile.FieldType.int)) := ⟨by decide, jd_Main_home, jo_Main, ji_Main_inic, (fun h => by cases h), jk_Main_home_w, Or.inr (Or.inl ⟨rfl, rfl⟩), (fun h => by cases h), rfl, by decide, ji_Main_ini, by decide, by decide⟩
set_option maxRecDepth 100000 in
theorem jk_Main_quiet_w : Cond.code ⟨"OppositeThreads", "quiet", "()I"⟩ prog_1_method_16_code 2 (some Jvm.ClassFile.FieldType.int) ∈ jx_G := jx_mem 498 rfl (by decide +kernel)
theorem jk_Main_quiet : jx_okM jx_nm 77 jm_Main_quiet (⟨"OppositeThreads", "quiet", "()I"⟩, prog_1_method_16_code, (some Jvm.ClassFile.FieldType.int)) := ⟨by decide, jd_Main_quiet, jo_Main, ji_Main_inic, (fun h => by cases h), jk_Main_quiet_w, Or.inr (Or.inl ⟨rfl, rfl⟩), (fun h => by cases h), rfl, by decide, ji_Main_ini, by decide, by decide⟩
set_option maxRecDepth 100000 in
theorem jk_Main_left_w : Cond.code ⟨"OppositeThreads", "left", "(II)I"⟩ prog_1_method_17_code 3 (some Jvm.ClassFile.FieldType.int) ∈ jx_G := jx_mem 506 rfl (by decide +kernel)
theorem jk_Main_left : jx_okM jx_nm 78 jm_Main_left (⟨"OppositeThreads", "left", "(II)I"⟩, prog_1_method_17_code, (some Jvm.ClassFile.FieldType.int)) := ⟨by decide, jd_Main_left, jo_Main, ji_Main_inic, (fun h => by cases h), jk_Main_left_w, Or.inr (Or.inl ⟨rfl, rfl⟩), (fun h => by cases h), rfl, by decide, ji_Main_ini, by decide, by decide⟩
set_option maxRecDepth 100000 in
theorem jk_Main_coat_w : Cond.code ⟨"OppositeThreads", "coat", "(I)I"⟩ prog_1_method_18_code 7 (some Jvm.ClassFile.FieldType.int) ∈ jx_G := jx_mem 517 rfl (by decide +kernel)
theorem jk_Main_coat : jx_okM jx_nm 79 jm_Main_coat (⟨"OppositeThreads", "coat", "(I)I"⟩, prog_1_method_18_code, (some Jvm.ClassFile.FieldType.int)) := ⟨by decide, jd_Main_coat, jo_Main, ji_Main_inic, (fun h => by cases h), jk_Main_coat_w, Or.inr (Or.inl ⟨rfl, rfl⟩), (fun h => by cases h), rfl, by decide, ji_Main_ini, by decide, by decide⟩
set_option maxRecDepth 100000 in
theorem jk_Main_pairs_w : Cond.code ⟨"OppositeThreads", "pairs", "(III)I"⟩ prog_1_method_19_code 8 (some Jvm.ClassFile.FieldType.int) ∈ jx_G := jx_mem 530 rfl (by decide +kernel)
theorem jk_Main_pairs : jx_okM jx_nm 80 jm_Main_pairs (⟨"OppositeThreads", "pairs", "(III)I"⟩, prog_1_method_19_code, (some Jvm.ClassFile.FieldType.int)) := ⟨by decide, jd_Main_pairs, jo_Main, ji_Main_inic, (fun h => by cases h), jk_Main_pairs_w, Or.inr (Or.inl ⟨rfl, rfl⟩), (fun h => by cases h), rfl, by decide, ji_Main_ini, by decide, by decide⟩
set_option maxRecDepth 100000 in
theorem jk_Main_keeps_w : Cond.code ⟨"OppositeThreads", "keeps", "(III)I"⟩ prog_1_method_20_code 8 (some Jvm.ClassFile.FieldType.int) ∈ jx_G := jx_mem 543 rfl (by decide +kernel)
theorem jk_Main_keeps : jx_okM jx_nm 81 jm_Main_keeps (⟨"OppositeThreads", "keeps", "(III)I"⟩, prog_1_method_20_code, (some Jvm.ClassFile.FieldType.int)) := ⟨by decide, jd_Main_keeps, jo_Main, ji_Main_inic, (fun h => by cases h), jk_Main_keeps_w, Or.inr (Or.inl ⟨rfl, rfl⟩), (fun h => by cases h), rfl, by decide, ji_Main_ini, by decide, by decide⟩
set_option maxRecDepth 100000 in
theorem jk_Main_seen_w : Cond.code ⟨"OppositeThreads", "seen", "(III)I"⟩ prog_1_method_21_code 4 (some Jvm.ClassFile.FieldType.int) ∈ jx_G := jx_mem 573 rfl (by decide +kernel)
theorem jk_Main_seen : jx_okM jx_nm 82 jm_Main_seen (⟨"OppositeThreads", "seen", "(III)I"⟩, prog_1_method_21_code, (some Jvm.ClassFile.FieldType.int)) := ⟨by decide, jd_Main_seen, jo_Main, ji_Main_inic, (fun h => by cases h), jk_Main_seen_w, Or.inr (Or.inl ⟨rfl, rfl⟩), (fun h => by cases h), rfl, by decide, ji_Main_ini, by decide, by decide⟩
set_option maxRecDepth 100000 in
theorem jk_Main_forget_w : Cond.code ⟨"OppositeThreads", "forget", "()I"⟩ prog_1_method_22_code 2 (some Jvm.ClassFile.FieldType.int) ∈ jx_G := jx_mem 584 rfl (by decide +kernel)
theorem jk_Main_forget : jx_okM jx_nm 83 jm_Main_forget (⟨"OppositeThreads", "forget", "()I"⟩, prog_1_method_22_code, (some Jvm.ClassFile.FieldType.int)) := ⟨by decide, jd_Main_forget, jo_Main, ji_Main_inic, (fun h => by cases h), jk_Main_forget_w, Or.inr (Or.inl ⟨rfl, rfl⟩), (fun h => by cases h), rfl, by decide, ji_Main_ini, by decide, by decide⟩
set_option maxRecDepth 100000 in
theorem jk_Main_kinds_w : Cond.code ⟨"OppositeThreads", "kinds", "()I"⟩ prog_1_method_23_code 1 (some Jvm.ClassFile.FieldType.int) ∈ jx_G := jx_mem 588 rfl (by decide +kernel)
theorem jk_Main_kinds : jx_okM jx_nm 84 jm_Main_kinds (⟨"OppositeThreads", "kinds", "()I"⟩, prog_1_method_23_code, (some Jvm.ClassFile.FieldType.int)) := ⟨by decide, jd_Main_kinds, jo_Main, ji_Main_inic, (fun h => by cases h), jk_Main_kinds_w, Or.inr (Or.inl ⟨rfl, rfl⟩), (fun h => by cases h), rfl, by decide, ji_Main_ini, by decide, by decide⟩
set_option maxRecDepth 100000 in
theorem jk_Main_ask_w : Cond.code ⟨"OppositeThreads", "ask", "()I"⟩ prog_1_method_24_code 1 (some Jvm.ClassFile.FieldType.int) ∈ jx_G := jx_mem 605 rfl (by decide +kernel)
theorem jk_Main_ask : jx_okM jx_nm 85 jm_Main_ask (⟨"OppositeThreads", "ask", "()I"⟩, prog_1_method_24_code, (some Jvm.ClassFile.FieldType.int)) := ⟨by decide, jd_Main_ask, jo_Main, ji_Main_inic, (fun h => by cases h), jk_Main_ask_w, Or.inr (Or.inl ⟨rfl, rfl⟩), (fun h => by cases h), rfl, by decide, ji_Main_ini, by decide, by decide⟩
set_option maxRecDepth 100000 in
theorem jk_Main_sheet_w : Cond.code ⟨"OppositeThreads", "sheet", "(III)I"⟩ prog_1_method_25_code 4 (some Jvm.ClassFile.FieldType.int) ∈ jx_G := jx_mem 622 rfl (by decide +kernel)
theorem jk_Main_sheet : jx_okM jx_nm 86 jm_Main_sheet (⟨"OppositeThreads", "sheet", "(III)I"⟩, prog_1_method_25_code, (some Jvm.ClassFile.FieldType.int)) := ⟨by decide, jd_Main_sheet, jo_Main, ji_Main_inic, (fun h => by cases h), jk_Main_sheet_w, Or.inr (Or.inl ⟨rfl, rfl⟩), (fun h => by cases h), rfl, by decide, ji_Main_ini, by decide, by decide⟩
set_option maxRecDepth 100000 in
theorem jk_Main_set_w : Cond.code ⟨"OppositeThreads", "set", "(IIII)I"⟩ prog_1_method_26_code 6 (some Jvm.ClassFile.FieldType.int) ∈ jx_G := jx_mem 638 rfl (by decide +kernel)
theorem jk_Main_set : jx_okM jx_nm 87 jm_Main_set (⟨"OppositeThreads", "set", "(IIII)I"⟩, prog_1_method_26_code, (some Jvm.ClassFile.FieldType.int)) := ⟨by decide, jd_Main_set, jo_Main, ji_Main_inic, (fun h => by cases h), jk_Main_set_w, Or.inr (Or.inl ⟨rfl, rfl⟩), (fun h => by cases h), rfl, by decide, ji_Main_ini, by decide, by decide⟩
set_option maxRecDepth 100000 in
theorem jk_Main_get_w : Cond.code ⟨"OppositeThreads", "get", "(III)I"⟩ prog_1_method_27_code 4 (some Jvm.ClassFile.FieldType.int) ∈ jx_G := jx_mem 654 rfl (by decide +kernel)
theorem jk_Main_get : jx_okM jx_nm 88 jm_Main_get (⟨"OppositeThreads", "get", "(III)I"⟩, prog_1_method_27_code, (some Jvm.ClassFile.FieldType.int)) := ⟨by decide, jd_Main_get, jo_Main, ji_Main_inic, (fun h => by cases h), jk_Main_get_w, Or.inr (Or.inl ⟨rfl, rfl⟩), (fun h => by cases h), rfl, by decide, ji_Main_ini, by decide, by decide⟩
set_option maxRecDepth 100000 in
theorem jk_Main_copy_w : Cond.code ⟨"OppositeThreads", "copy", "(IIIII)I"⟩ prog_1_method_28_code 8 (some Jvm.ClassFile.FieldType.int) ∈ jx_G := jx_mem 658 rfl (by decide +kernel)
theorem jk_Main_copy : jx_okM jx_nm 89 jm_Main_copy (⟨"OppositeThreads", "copy", "(IIIII)I"⟩, prog_1_method_28_code, (some Jvm.ClassFile.FieldType.int)) := ⟨by decide, jd_Main_copy, jo_Main, ji_Main_inic, (fun h => by cases h), jk_Main_copy_w, Or.inr (Or.inl ⟨rfl, rfl⟩), (fun h => by cases h), rfl, by decide, ji_Main_ini, by decide, by decide⟩
set_option maxRecDepth 100000 in
theorem jk_Main_join_w : Cond.code ⟨"OppositeThreads", "join", "(II)I"⟩ prog_1_method_29_code 6 (some Jvm.ClassFile.FieldType.int) ∈ jx_G := jx_mem 663 rfl (by decide +kernel)
theorem jk_Main_join : jx_okM jx_nm 90 jm_Main_join (⟨"OppositeThreads", "join", "(II)I"⟩, prog_1_method_29_code, (some Jvm.ClassFile.FieldType.int)) := ⟨by decide, jd_Main_join, jo_Main, ji_Main_inic, (fun h => by cases h), jk_Main_join_w, Or.inr (Or.inl ⟨rfl, rfl⟩), (fun h => by cases h), rfl, by decide, ji_Main_ini, by decide, by decide⟩
set_option maxRecDepth 100000 in
theorem jk_Main_sum_w : Cond.code ⟨"OppositeThreads", "sum", "(I)I"⟩ prog_1_method_30_code 2 (some Jvm.ClassFile.FieldType.int) ∈ jx_G := jx_mem 667 rfl (by decide +kernel)
theorem jk_Main_sum : jx_okM jx_nm 91 jm_Main_sum (⟨"OppositeThreads", "sum", "(I)I"⟩, prog_1_method_30_code, (some Jvm.ClassFile.FieldType.int)) := ⟨by decide, jd_Main_sum, jo_Main, ji_Main_inic, (fun h => by cases h), jk_Main_sum_w, Or.inr (Or.inl ⟨rfl, rfl⟩), (fun h => by cases h), rfl, by decide, ji_Main_ini, by decide, by decide⟩
set_option maxRecDepth 100000 in
theorem jk_Main_drop_w : Cond.code ⟨"OppositeThreads", "drop", "(I)I"⟩ prog_1_method_31_code 3 (some Jvm.ClassFile.FieldType.int) ∈ jx_G := jx_mem 676 rfl (by decide +kernel)
theorem jk_Main_drop : jx_okM jx_nm 92 jm_Main_drop (⟨"OppositeThreads", "drop", "(I)I"⟩, prog_1_method_31_code, (some Jvm.ClassFile.FieldType.int)) := ⟨by decide, jd_Main_drop, jo_Main, ji_Main_inic, (fun h => by cases h), jk_Main_drop_w, Or.inr (Or.inl ⟨rfl, rfl⟩), (fun h => by cases h), rfl, by decide, ji_Main_ini, by decide, by decide⟩
set_option maxRecDepth 100000 in
theorem jk_Main_count_w : Cond.code ⟨"OppositeThreads", "count", "(I)I"⟩ prog_1_method_32_code 2 (some Jvm.ClassFile.FieldType.int) ∈ jx_G := jx_mem 680 rfl (by decide +kernel)
theorem jk_Main_count : jx_okM jx_nm 93 jm_Main_count (⟨"OppositeThreads", "count", "(I)I"⟩, prog_1_method_32_code, (some Jvm.ClassFile.FieldType.int)) := ⟨by decide, jd_Main_count, jo_Main, ji_Main_inic, (fun h => by cases h), jk_Main_count_w, Or.inr (Or.inl ⟨rfl, rfl⟩), (fun h => by cases h), rfl, by decide, ji_Main_ini, by decide, by decide⟩
set_option maxRecDepth 100000 in
theorem jk_Main_areTwoMen_w : Cond.code ⟨"OppositeThreads", "areTwoMen", "(II)Z"⟩ prog_1_method_33_code 3 (some Jvm.ClassFile.FieldType.boolean) ∈ jx_G := jx_mem 463 rfl (by decide +kernel)
theorem jk_Main_areTwoMen : jx_okM jx_nm 94 jm_Main_areTwoMen (⟨"OppositeThreads", "areTwoMen", "(II)Z"⟩, prog_1_method_33_code, (some Jvm.ClassFile.FieldType.boolean)) := ⟨by decide, jd_Main_areTwoMen, jo_Main, ji_Main_inic, (fun h => by cases h), jk_Main_areTwoMen_w, Or.inr (Or.inr (Or.inr (Or.inr (Or.inl ⟨rfl, rfl⟩)))), (fun h => by cases h), rfl, by decide, ji_Main_ini, by decide, by decide⟩
set_option maxRecDepth 100000 in
theorem jk_Main_isSide_w : Cond.code ⟨"OppositeThreads", "isSide", "(I)Z"⟩ prog_1_method_34_code 1 (some Jvm.ClassFile.FieldType.boolean) ∈ jx_G := jx_mem 509 rfl (by decide +kernel)
theorem jk_Main_isSide : jx_okM jx_nm 95 jm_Main_isSide (⟨"OppositeThreads", "isSide", "(I)Z"⟩, prog_1_method_34_code, (some Jvm.ClassFile.FieldType.boolean)) := ⟨by decide, jd_Main_isSide, jo_Main, ji_Main_inic, (fun h => by cases h), jk_Main_isSide_w, Or.inr (Or.inr (Or.inr (Or.inr (Or.inl ⟨rfl, rfl⟩)))), (fun h => by cases h), rfl, by decide, ji_Main_ini, by decide, by decide⟩
set_option maxRecDepth 100000 in
theorem jk_Main_isPlanned_w : Cond.code ⟨"OppositeThreads", "isPlanned", "(I)Z"⟩ prog_1_method_35_code 1 (some Jvm.ClassFile.FieldType.boolean) ∈ jx_G := jx_mem 520 rfl (by decide +kernel)
theorem jk_Main_isPlanned : jx_okM jx_nm 96 jm_Main_isPlanned (⟨"OppositeThreads", "isPlanned", "(I)Z"⟩, prog_1_method_35_code, (some Jvm.ClassFile.FieldType.boolean)) := ⟨by decide, jd_Main_isPlanned, jo_Main, ji_Main_inic, (fun h => by cases h), jk_Main_isPlanned_w, Or.inr (Or.inr (Or.inr (Or.inr (Or.inl ⟨rfl, rfl⟩)))), (fun h => by cases h), rfl, by decide, ji_Main_ini, by decide, by decide⟩
set_option maxRecDepth 100000 in
theorem jk_Main_isSheet_w : Cond.code ⟨"OppositeThreads", "isSheet", "(I)Z"⟩ prog_1_method_36_code 1 (some Jvm.ClassFile.FieldType.boolean) ∈ jx_G := jx_mem 625 rfl (by decide +kernel)
theorem jk_Main_isSheet : jx_okM jx_nm 97 jm_Main_isSheet (⟨"OppositeThreads", "isSheet", "(I)Z"⟩, prog_1_method_36_code, (some Jvm.ClassFile.FieldType.boolean)) := ⟨by decide, jd_Main_isSheet, jo_Main, ji_Main_inic, (fun h => by cases h), jk_Main_isSheet_w, Or.inr (Or.inr (Or.inr (Or.inr (Or.inl ⟨rfl, rfl⟩)))), (fun h => by cases h), rfl, by decide, ji_Main_ini, by decide, by decide⟩
set_option maxRecDepth 100000 in
theorem jk_Main_isSort_w : Cond.code ⟨"OppositeThreads", "isSort", "(I)Z"⟩ prog_1_method_37_code 1 (some Jvm.ClassFile.FieldType.boolean) ∈ jx_G := jx_mem 628 rfl (by decide +kernel)
theorem jk_Main_isSort : jx_okM jx_nm 98 jm_Main_isSort (⟨"OppositeThreads", "isSort", "(I)Z"⟩, prog_1_method_37_code, (some Jvm.ClassFile.FieldType.boolean)) := ⟨by decide, jd_Main_isSort, jo_Main, ji_Main_inic, (fun h => by cases h), jk_Main_isSort_w, Or.inr (Or.inr (Or.inr (Or.inr (Or.inl ⟨rfl, rfl⟩)))), (fun h => by cases h), rfl, by decide, ji_Main_ini, by decide, by decide⟩
set_option maxRecDepth 100000 in
theorem jk_Main_commonDivisor_w : Cond.code ⟨"OppositeThreads", "commonDivisor", "(II)I"⟩ prog_1_method_38_code 6 (some Jvm.ClassFile.FieldType.int) ∈ jx_G := jx_mem 568 rfl (by decide +kernel)
theorem jk_Main_commonDivisor : jx_okM jx_nm 99 jm_Main_commonDivisor (⟨"OppositeThreads", "commonDivisor", "(II)I"⟩, prog_1_method_38_code, (some Jvm.ClassFile.FieldType.int)) := ⟨by decide, jd_Main_commonDivisor, jo_Main, ji_Main_inic, (fun h => by cases h), jk_Main_commonDivisor_w, Or.inr (Or.inl ⟨rfl, rfl⟩), (fun h => by cases h), rfl, by decide, ji_Main_ini, by decide, by decide⟩
set_option maxRecDepth 100000 in
theorem jk_Main_valueAt_w : Cond.code ⟨"OppositeThreads", "valueAt", "(LOppositeThreads$Sheet;II)I"⟩ prog_1_method_39_code 3 (some Jvm.ClassFile.FieldType.int) ∈ jx_G := jx_mem 641 rfl (by decide +kernel)
theorem jk_Main_valueAt : jx_okM jx_nm 100 jm_Main_valueAt (⟨"OppositeThreads", "valueAt", "(LOppositeThreads$Sheet;II)I"⟩, prog_1_method_39_code, (some Jvm.ClassFile.FieldType.int)) := ⟨by decide, jd_Main_valueAt, jo_Main, ji_Main_inic, (fun h => by cases h), jk_Main_valueAt_w, Or.inr (Or.inl ⟨rfl, rfl⟩), (fun h => by cases h), rfl, by decide, ji_Main_ini, by decide, by decide⟩
set_option maxRecDepth 100000 in
theorem jk_Main_placesOfSheets_w : Cond.code ⟨"OppositeThreads", "placesOfSheets", "()I"⟩ prog_1_method_40_code 3 (some Jvm.ClassFile.FieldType.int) ∈ jx_G := jx_mem 692 rfl (by decide +kernel)
theorem jk_Main_placesOfSheets : jx_okM jx_nm 101 jm_Main_placesOfSheets (⟨"OppositeThreads", "placesOfSheets", "()I"⟩, prog_1_method_40_code, (some Jvm.ClassFile.FieldType.int)) := ⟨by decide, jd_Main_placesOfSheets, jo_Main, ji_Main_inic, (fun h => by cases h), jk_Main_placesOfSheets_w, Or.inr (Or.inl ⟨rfl, rfl⟩), (fun h => by cases h), rfl, by decide, ji_Main_ini, by decide, by decide⟩
theorem ji_Model_ini : Cond.initialized "OppositeThreadsModel" ∈ jx_G := jx_mem 57 (by decide +kernel) (by decide +kernel)
theorem ji_Model_inic : jx_cno 6 "OppositeThreadsModel" := fun r h => by cases h; rfl
set_option maxRecDepth 100000 in
theorem jk_Model_init_w : Cond.code ⟨"OppositeThreadsModel", "<init>", "()V"⟩ prog_9_method_1_code 1 none ∈ jx_G := jx_mem 697 rfl (by decide +kernel)
theorem jk_Model_init : jx_okM jx_nm 102 jm_Model_init (⟨"OppositeThreadsModel", "<init>", "()V"⟩, prog_9_method_1_code, none) := ⟨by decide, jd_Model_init, jo_Model, ji_Model_inic, (fun h => by cases h), jk_Model_init_w, Or.inl ⟨rfl, rfl⟩, (fun _ => rfl), rfl, by decide, ji_Model_ini, by decide, by decide⟩
set_option maxRecDepth 100000 in
theorem jk_Model_in_w : Cond.code ⟨"OppositeThreadsModel", "in", "(JJJ)Z"⟩ prog_9_method_2_code 6 (some Jvm.ClassFile.FieldType.boolean) ∈ jx_G := jx_mem 802 rfl (by decide +kernel)
theorem jk_Model_in : jx_okM jx_nm 103 jm_Model_in (⟨"OppositeThreadsModel", "in", "(JJJ)Z"⟩, prog_9_method_2_code, (some Jvm.ClassFile.FieldType.boolean)) := ⟨by decide, jd_Model_in, jo_Model, ji_Model_inic, (fun h => by cases h), jk_Model_in_w, Or.inr (Or.inr (Or.inr (Or.inr (Or.inl ⟨rfl, rfl⟩)))), (fun h => by cases h), rfl, by decide, ji_Model_ini, by decide, by decide⟩
set_option maxRecDepth 100000 in
theorem jk_Model_has_w : Cond.code ⟨"OppositeThreadsModel", "has", "(II)Z"⟩ prog_9_method_3_code 2 (some Jvm.ClassFile.FieldType.boolean) ∈ jx_G := jx_mem 924 rfl (by decide +kernel)
theorem jk_Model_has : jx_okM jx_nm 104 jm_Model_has (⟨"OppositeThreadsModel", "has", "(II)Z"⟩, prog_9_method_3_code, (some Jvm.ClassFile.FieldType.boolean)) := ⟨by decide, jd_Model_has, jo_Model, ji_Model_inic, (fun h => by cases h), jk_Model_has_w, Or.inr (Or.inr (Or.inr (Or.inr (Or.inl ⟨rfl, rfl⟩)))), (fun h => by cases h), rfl, by decide, ji_Model_ini, by decide, by decide⟩
set_option maxRecDepth 100000 in
theorem jk_Model_bits_w : Cond.code ⟨"OppositeThreadsModel", "bits", "(I)I"⟩ prog_9_method_4_code 3 (some Jvm.ClassFile.FieldType.int) ∈ jx_G := jx_mem 985 rfl (by decide +kernel)
theorem jk_Model_bits : jx_okM jx_nm 105 jm_Model_bits (⟨"OppositeThreadsModel", "bits", "(I)I"⟩, prog_9_method_4_code, (some Jvm.ClassFile.FieldType.int)) := ⟨by decide, jd_Model_bits, jo_Model, ji_Model_inic, (fun h => by cases h), jk_Model_bits_w, Or.inr (Or.inl ⟨rfl, rfl⟩), (fun h => by cases h), rfl, by decide, ji_Model_ini, by decide, by decide⟩
set_option maxRecDepth 100000 in
theorem jk_Model_layArmy_w : Cond.code ⟨"OppositeThreadsModel", "layArmy", "(I)V"⟩ prog_9_method_5_code 3 none ∈ jx_G := jx_mem 702 rfl (by decide +kernel)
theorem jk_Model_layArmy : jx_okM jx_nm 106 jm_Model_layArmy (⟨"OppositeThreadsModel", "layArmy", "(I)V"⟩, prog_9_method_5_code, none) := ⟨by decide, jd_Model_layArmy, jo_Model, ji_Model_inic, (fun h => by cases h), jk_Model_layArmy_w, Or.inl ⟨rfl, rfl⟩, (fun h => by cases h), rfl, by decide, ji_Model_ini, by decide, by decide⟩
set_option maxRecDepth 100000 in
theorem jk_Model_write_w : Cond.code ⟨"OppositeThreadsModel", "write", "(I)I"⟩ prog_9_method_6_code 2 (some Jvm.ClassFile.FieldType.int) ∈ jx_G := jx_mem 798 rfl (by decide +kernel)
theorem jk_Model_write : jx_okM jx_nm 107 jm_Model_write (⟨"OppositeThreadsModel", "write", "(I)I"⟩, prog_9_method_6_code, (some Jvm.ClassFile.FieldType.int)) := ⟨by decide, jd_Model_write, jo_Model, ji_Model_inic, (fun h => by cases h), jk_Model_write_w, Or.inr (Or.inl ⟨rfl, rfl⟩), (fun h => by cases h), rfl, by decide, ji_Model_ini, by decide, by decide⟩
set_option maxRecDepth 100000 in
theorem jk_Model_erase_w : Cond.code ⟨"OppositeThreadsModel", "erase", "()I"⟩ prog_9_method_7_code 2 (some Jvm.ClassFile.FieldType.int) ∈ jx_G := jx_mem 806 rfl (by decide +kernel)
theorem jk_Model_erase : jx_okM jx_nm 108 jm_Model_erase (⟨"OppositeThreadsModel", "erase", "()I"⟩, prog_9_method_7_code, (some Jvm.ClassFile.FieldType.int)) := ⟨by decide, jd_Model_erase, jo_Model, ji_Model_inic, (fun h => by cases h), jk_Model_erase_w, Or.inr (Or.inl ⟨rfl, rfl⟩), (fun h => by cases h), rfl, by decide, ji_Model_ini, by decide, by decide⟩
set_option maxRecDepth 100000 in
theorem jk_Model_isLetter_w : Cond.code ⟨"OppositeThreadsModel", "isLetter", "(I)Z"⟩ prog_9_method_8_code 1 (some Jvm.ClassFile.FieldType.boolean) ∈ jx_G := jx_mem 821 rfl (by decide +kernel)
theorem jk_Model_isLetter : jx_okM jx_nm 109 jm_Model_isLetter (⟨"OppositeThreadsModel", "isLetter", "(I)Z"⟩, prog_9_method_8_code, (some Jvm.ClassFile.FieldType.boolean)) := ⟨by decide, jd_Model_isLetter, jo_Model, ji_Model_inic, (fun h => by cases h), jk_Model_isLetter_w, Or.inr (Or.inr (Or.inr (Or.inr (Or.inl ⟨rfl, rfl⟩)))), (fun h => by cases h), rfl, by decide, ji_Model_ini, by decide, by decide⟩
set_option maxRecDepth 100000 in
theorem jk_Model_isDigit_w : Cond.code ⟨"OppositeThreadsModel", "isDigit", "(I)Z"⟩ prog_9_method_9_code 1 (some Jvm.ClassFile.FieldType.boolean) ∈ jx_G := jx_mem 826 rfl (by decide +kernel)
theorem jk_Model_isDigit : jx_okM jx_nm 110 jm_Model_isDigit (⟨"OppositeThreadsModel", "isDigit", "(I)Z"⟩, prog_9_method_9_code, (some Jvm.ClassFile.FieldType.boolean)) := ⟨by decide, jd_Model_isDigit, jo_Model, ji_Model_inic, (fun h => by cases h), jk_Model_isDigit_w, Or.inr (Or.inr (Or.inr (Or.inr (Or.inl ⟨rfl, rfl⟩)))), (fun h => by cases h), rfl, by decide, ji_Model_ini, by decide, by decide⟩
set_option maxRecDepth 100000 in
theorem jk_Model_nextToken_w : Cond.code ⟨"OppositeThreadsModel", "nextToken", "()V"⟩ prog_9_method_10_code 1 none ∈ jx_G := jx_mem 818 rfl (by decide +kernel)
theorem jk_Model_nextToken : jx_okM jx_nm 111 jm_Model_nextToken (⟨"OppositeThreadsModel", "nextToken", "()V"⟩, prog_9_method_10_code, none) := ⟨by decide, jd_Model_nextToken, jo_Model, ji_Model_inic, (fun h => by cases h), jk_Model_nextToken_w, Or.inl ⟨rfl, rfl⟩, (fun h => by cases h), rfl, by decide, ji_Model_ini, by decide, by decide⟩
set_option maxRecDepth 100000 in
theorem jk_Model_isWord_w : Cond.code ⟨"OppositeThreadsModel", "isWord", "([I)Z"⟩ prog_9_method_11_code 4 (some Jvm.ClassFile.FieldType.boolean) ∈ jx_G := jx_mem 840 rfl (by decide +kernel)
theorem jk_Model_isWord : jx_okM jx_nm 112 jm_Model_isWord (⟨"OppositeThreadsModel", "isWord", "([I)Z"⟩, prog_9_method_11_code, (some Jvm.ClassFile.FieldType.boolean)) := ⟨by decide, jd_Model_isWord, jo_Model, ji_Model_inic, (fun h => by cases h), jk_Model_isWord_w, Or.inr (Or.inr (Or.inr (Or.inr (Or.inl ⟨rfl, rfl⟩)))), (fun h => by cases h), rfl, by decide, ji_Model_ini, by decide, by decide⟩
set_option maxRecDepth 100000 in
theorem jk_Model_number_w : Cond.code ⟨"OppositeThreadsModel", "number", "(III)Z"⟩ prog_9_method_12_code 6 (some Jvm.ClassFile.FieldType.boolean) ∈ jx_G := jx_mem 848 rfl (by decide +kernel)
theorem jk_Model_number : jx_okM jx_nm 113 jm_Model_number (⟨"OppositeThreadsModel", "number", "(III)Z"⟩, prog_9_method_12_code, (some Jvm.ClassFile.FieldType.boolean)) := ⟨by decide, jd_Model_number, jo_Model, ji_Model_inic, (fun h => by cases h), jk_Model_number_w, Or.inr (Or.inr (Or.inr (Or.inr (Or.inl ⟨rfl, rfl⟩)))), (fun h => by cases h), rfl, by decide, ji_Model_ini, by decide, by decide⟩
set_option maxRecDepth 100000 in
theorem jk_Model_kindHere_w : Cond.code ⟨"OppositeThreadsModel", "kindHere", "()I"⟩ prog_9_method_13_code 1 (some Jvm.ClassFile.FieldType.int) ∈ jx_G := jx_mem 836 rfl (by decide +kernel)
theorem jk_Model_kindHere : jx_okM jx_nm 114 jm_Model_kindHere (⟨"OppositeThreadsModel", "kindHere", "()I"⟩, prog_9_method_13_code, (some Jvm.ClassFile.FieldType.int)) := ⟨by decide, jd_Model_kindHere, jo_Model, ji_Model_inic, (fun h => by cases h), jk_Model_kindHere_w, Or.inr (Or.inl ⟨rfl, rfl⟩), (fun h => by cases h), rfl, by decide, ji_Model_ini, by decide, by decide⟩
set_option maxRecDepth 100000 in
theorem jk_Model_readsKind_w : Cond.code ⟨"OppositeThreadsModel", "readsKind", "(I)Z"⟩ prog_9_method_14_code 2 (some Jvm.ClassFile.FieldType.boolean) ∈ jx_G := jx_mem 844 rfl (by decide +kernel)
theorem jk_Model_readsKind : jx_okM jx_nm 115 jm_Model_readsKind (⟨"OppositeThreadsModel", "readsKind", "(I)Z"⟩, prog_9_method_14_code, (some Jvm.ClassFile.FieldType.boolean)) := ⟨by decide, jd_Model_readsKind, jo_Model, ji_Model_inic, (fun h => by cases h), jk_Model_readsKind_w, Or.inr (Or.inr (Or.inr (Or.inr (Or.inl ⟨rfl, rfl⟩)))), (fun h => by cases h), rfl, by decide, ji_Model_ini, by decide, by decide⟩
set_option maxRecDepth 100000 in
theorem jk_Model_readsArmy_w : Cond.code ⟨"OppositeThreadsModel", "readsArmy", "()Z"⟩ prog_9_method_15_code 1 (some Jvm.ClassFile.FieldType.boolean) ∈ jx_G := jx_mem 852 rfl (by decide +kernel)
theorem jk_Model_readsArmy : jx_okM jx_nm 116 jm_Model_readsArmy (⟨"OppositeThreadsModel", "readsArmy", "()Z"⟩, prog_9_method_15_code, (some Jvm.ClassFile.FieldType.boolean)) := ⟨by decide, jd_Model_readsArmy, jo_Model, ji_Model_inic, (fun h => by cases h), jk_Model_readsArmy_w, Or.inr (Or.inr (Or.inr (Or.inr (Or.inl ⟨rfl, rfl⟩)))), (fun h => by cases h), rfl, by decide, ji_Model_ini, by decide, by decide⟩
set_option maxRecDepth 100000 in
theorem jk_Model_readsButtons_w : Cond.code ⟨"OppositeThreadsModel", "readsButtons", "()Z"⟩ prog_9_method_16_code 1 (some Jvm.ClassFile.FieldType.boolean) ∈ jx_G := jx_mem 856 rfl (by decide +kernel)
theorem jk_Model_readsButtons : jx_okM jx_nm 117 jm_Model_readsButtons (⟨"OppositeThreadsModel", "readsButtons", "()Z"⟩, prog_9_method_16_code, (some Jvm.ClassFile.FieldType.boolean)) := ⟨by decide, jd_Model_readsButtons, jo_Model, ji_Model_inic, (fun h => by cases h), jk_Model_readsButtons_w, Or.inr (Or.inr (Or.inr (Or.inr (Or.inl ⟨rfl, rfl⟩)))), (fun h => by cases h), rfl, by decide, ji_Model_ini, by decide, by decide⟩
set_option maxRecDepth 100000 in
theorem jk_Model_readsMender_w : Cond.code ⟨"OppositeThreadsModel", "readsMender", "()Z"⟩ prog_9_method_17_code 2 (some Jvm.ClassFile.FieldType.boolean) ∈ jx_G := jx_mem 860 rfl (by decide +kernel)
theorem jk_Model_readsMender : jx_okM jx_nm 118 jm_Model_readsMender (⟨"OppositeThreadsModel", "readsMender", "()Z"⟩, prog_9_method_17_code, (some Jvm.ClassFile.FieldType.boolean)) := ⟨by decide, jd_Model_readsMender, jo_Model, ji_Model_inic, (fun h => by cases h), jk_Model_readsMender_w, Or.inr (Or.inr (Or.inr (Or.inr (Or.inl ⟨rfl, rfl⟩)))), (fun h => by cases h), rfl, by decide, ji_Model_ini, by decide, by decide⟩
set_option maxRecDepth 100000 in
theorem jk_Model_readsClause_w : Cond.code ⟨"OppositeThreadsModel", "readsClause", "()Z"⟩ prog_9_method_18_code 1 (some Jvm.ClassFile.FieldType.boolean) ∈ jx_G := jx_mem 832 rfl (by decide +kernel)
theorem jk_Model_readsClause : jx_okM jx_nm 119 jm_Model_readsClause (⟨"OppositeThreadsModel", "readsClause", "()Z"⟩, prog_9_method_18_code, (some Jvm.ClassFile.FieldType.boolean)) := ⟨by decide, jd_Model_readsClause, jo_Model, ji_Model_inic, (fun h => by cases h), jk_Model_readsClause_w, Or.inr (Or.inr (Or.inr (Or.inr (Or.inl ⟨rfl, rfl⟩)))), (fun h => by cases h), rfl, by decide, ji_Model_ini, by decide, by decide⟩
set_option maxRecDepth 100000 in
theorem jk_Model_reads_w : Cond.code ⟨"OppositeThreadsModel", "reads", "(Z)Z"⟩ prog_9_method_19_code 3 (some Jvm.ClassFile.FieldType.boolean) ∈ jx_G := jx_mem 814 rfl (by decide +kernel)
theorem jk_Model_reads : jx_okM jx_nm 120 jm_Model_reads (⟨"OppositeThreadsModel", "reads", "(Z)Z"⟩, prog_9_method_19_code, (some Jvm.ClassFile.FieldType.boolean)) := ⟨by decide, jd_Model_reads, jo_Model, ji_Model_inic, (fun h => by cases h), jk_Model_reads_w, Or.inr (Or.inr (Or.inr (Or.inr (Or.inl ⟨rfl, rfl⟩)))), (fun h => by cases h), rfl, by decide, ji_Model_ini, by decide, by decide⟩
set_option maxRecDepth 100000 in
theorem jk_Model_fault_w : Cond.code ⟨"OppositeThreadsModel", "fault", "()I"⟩ prog_9_method_20_code 1 (some Jvm.ClassFile.FieldType.int) ∈ jx_G := jx_mem 810 rfl (by decide +kernel)
theorem jk_Model_fault : jx_okM jx_nm 121 jm_Model_fault (⟨"OppositeThreadsModel", "fault", "()I"⟩, prog_9_method_20_code, (some Jvm.ClassFile.FieldType.int)) := ⟨by decide, jd_Model_fault, jo_Model, ji_Model_inic, (fun h => by cases h), jk_Model_fault_w, Or.inr (Or.inl ⟨rfl, rfl⟩), (fun h => by cases h), rfl, by decide, ji_Model_ini, by decide, by decide⟩
set_option maxRecDepth 100000 in
theorem jk_Model_copyRow_w : Cond.code ⟨"OppositeThreadsModel", "copyRow", "(III)V"⟩ prog_9_method_21_code 5 none ∈ jx_G := jx_mem 706 rfl (by decide +kernel)
theorem jk_Model_copyRow : jx_okM jx_nm 122 jm_Model_copyRow (⟨"OppositeThreadsModel", "copyRow", "(III)V"⟩, prog_9_method_21_code, none) := ⟨by decide, jd_Model_copyRow, jo_Model, ji_Model_inic, (fun h => by cases h), jk_Model_copyRow_w, Or.inl ⟨rfl, rfl⟩, (fun h => by cases h), rfl, by decide, ji_Model_ini, by decide, by decide⟩
set_option maxRecDepth 100000 in
theorem jk_Model_army_w : Cond.code ⟨"OppositeThreadsModel", "army", "()I"⟩ prog_9_method_22_code 2 (some Jvm.ClassFile.FieldType.int) ∈ jx_G := jx_mem 864 rfl (by decide +kernel)
theorem jk_Model_army : jx_okM jx_nm 123 jm_Model_army (⟨"OppositeThreadsModel", "army", "()I"⟩, prog_9_method_22_code, (some Jvm.ClassFile.FieldType.int)) := ⟨by decide, jd_Model_army, jo_Model, ji_Model_inic, (fun h => by cases h), jk_Model_army_w, Or.inr (Or.inl ⟨rfl, rfl⟩), (fun h => by cases h), rfl, by decide, ji_Model_ini, by decide, by decide⟩
set_option maxRecDepth 100000 in
theorem jk_Model_men_w : Cond.code ⟨"OppositeThreadsModel", "men", "()I"⟩ prog_9_method_23_code 1 (some Jvm.ClassFile.FieldType.int) ∈ jx_G := jx_mem 876 rfl (by decide +kernel)
theorem jk_Model_men : jx_okM jx_nm 124 jm_Model_men (⟨"OppositeThreadsModel", "men", "()I"⟩, prog_9_method_23_code, (some Jvm.ClassFile.FieldType.int)) := ⟨by decide, jd_Model_men, jo_Model, ji_Model_inic, (fun h => by cases h), jk_Model_men_w, Or.inr (Or.inl ⟨rfl, rfl⟩), (fun h => by cases h), rfl, by decide, ji_Model_ini, by decide, by decide⟩
set_option maxRecDepth 100000 in
theorem jk_Model_isMan_w : Cond.code ⟨"OppositeThreadsModel", "isMan", "(I)Z"⟩ prog_9_method_24_code 2 (some Jvm.ClassFile.FieldType.boolean) ∈ jx_G := jx_mem 872 rfl (by decide +kernel)
theorem jk_Model_isMan : jx_okM jx_nm 125 jm_Model_isMan (⟨"OppositeThreadsModel", "isMan", "(I)Z"⟩, prog_9_method_24_code, (some Jvm.ClassFile.FieldType.boolean)) := ⟨by decide, jd_Model_isMan, jo_Model, ji_Model_inic, (fun h => by cases h), jk_Model_isMan_w, Or.inr (Or.inr (Or.inr (Or.inr (Or.inl ⟨rfl, rfl⟩)))), (fun h => by cases h), rfl, by decide, ji_Model_ini, by decide, by decide⟩
set_option maxRecDepth 100000 in
theorem jk_Model_sideOf_w : Cond.code ⟨"OppositeThreadsModel", "sideOf", "(I)I"⟩ prog_9_method_25_code 2 (some Jvm.ClassFile.FieldType.int) ∈ jx_G := jx_mem 892 rfl (by decide +kernel)
theorem jk_Model_sideOf : jx_okM jx_nm 126 jm_Model_sideOf (⟨"OppositeThreadsModel", "sideOf", "(I)I"⟩, prog_9_method_25_code, (some Jvm.ClassFile.FieldType.int)) := ⟨by decide, jd_Model_sideOf, jo_Model, ji_Model_inic, (fun h => by cases h), jk_Model_sideOf_w, Or.inr (Or.inl ⟨rfl, rfl⟩), (fun h => by cases h), rfl, by decide, ji_Model_ini, by decide, by decide⟩
set_option maxRecDepth 100000 in
theorem jk_Model_isOut_w : Cond.code ⟨"OppositeThreadsModel", "isOut", "(II)Z"⟩ prog_9_method_26_code 3 (some Jvm.ClassFile.FieldType.boolean) ∈ jx_G := jx_mem 884 rfl (by decide +kernel)
theorem jk_Model_isOut : jx_okM jx_nm 127 jm_Model_isOut (⟨"OppositeThreadsModel", "isOut", "(II)Z"⟩, prog_9_method_26_code, (some Jvm.ClassFile.FieldType.boolean)) := ⟨by decide, jd_Model_isOut, jo_Model, ji_Model_inic, (fun h => by cases h), jk_Model_isOut_w, Or.inr (Or.inr (Or.inr (Or.inr (Or.inl ⟨rfl, rfl⟩)))), (fun h => by cases h), rfl, by decide, ji_Model_ini, by decide, by decide⟩
set_option maxRecDepth 100000 in
theorem jk_Model_isOpen_w : Cond.code ⟨"OppositeThreadsModel", "isOpen", "(III)Z"⟩ prog_9_method_27_code 4 (some Jvm.ClassFile.FieldType.boolean) ∈ jx_G := jx_mem 888 rfl (by decide +kernel)
theorem jk_Model_isOpen : jx_okM jx_nm 128 jm_Model_isOpen (⟨"OppositeThreadsModel", "isOpen", "(III)Z"⟩, prog_9_method_27_code, (some Jvm.ClassFile.FieldType.boolean)) := ⟨by decide, jd_Model_isOpen, jo_Model, ji_Model_inic, (fun h => by cases h), jk_Model_isOpen_w, Or.inr (Or.inr (Or.inr (Or.inr (Or.inl ⟨rfl, rfl⟩)))), (fun h => by cases h), rfl, by decide, ji_Model_ini, by decide, by decide⟩
set_option maxRecDepth 100000 in
theorem jk_Model_hitsBy_w : Cond.code ⟨"OppositeThreadsModel", "hitsBy", "(I)I"⟩ prog_9_method_28_code 1 (some Jvm.ClassFile.FieldType.int) ∈ jx_G := jx_mem 895 rfl (by decide +kernel)
theorem jk_Model_hitsBy : jx_okM jx_nm 129 jm_Model_hitsBy (⟨"OppositeThreadsModel", "hitsBy", "(I)I"⟩, prog_9_method_28_code, (some Jvm.ClassFile.FieldType.int)) := ⟨by decide, jd_Model_hitsBy, jo_Model, ji_Model_inic, (fun h => by cases h), jk_Model_hitsBy_w, Or.inr (Or.inl ⟨rfl, rfl⟩), (fun h => by cases h), rfl, by decide, ji_Model_ini, by decide, by decide⟩
set_option maxRecDepth 100000 in
theorem jk_Model_aimsAt_w : Cond.code ⟨"OppositeThreadsModel", "aimsAt", "(II)I"⟩ prog_9_method_29_code 9 (some Jvm.ClassFile.FieldType.int) ∈ jx_G := jx_mem 880 rfl (by decide +kernel)
theorem jk_Model_aimsAt : jx_okM jx_nm 130 jm_Model_aimsAt (⟨"OppositeThreadsModel", "aimsAt", "(II)I"⟩, prog_9_method_29_code, (some Jvm.ClassFile.FieldType.int)) := ⟨by decide, jd_Model_aimsAt, jo_Model, ji_Model_inic, (fun h => by cases h), jk_Model_aimsAt_w, Or.inr (Or.inl ⟨rfl, rfl⟩), (fun h => by cases h), rfl, by decide, ji_Model_ini, by decide, by decide⟩
set_option maxRecDepth 100000 in
theorem jk_Model_hamper_w : Cond.code ⟨"OppositeThreadsModel", "hamper", "(I)V"⟩ prog_9_method_30_code 4 none ∈ jx_G := jx_mem 921 rfl (by decide +kernel)
theorem jk_Model_hamper : jx_okM jx_nm 131 jm_Model_hamper (⟨"OppositeThreadsModel", "hamper", "(I)V"⟩, prog_9_method_30_code, none) := ⟨by decide, jd_Model_hamper, jo_Model, ji_Model_inic, (fun h => by cases h), jk_Model_hamper_w, Or.inl ⟨rfl, rfl⟩, (fun h => by cases h), rfl, by decide, ji_Model_ini, by decide, by decide⟩
set_option maxRecDepth 100000 in
theorem jk_Model_days_w : Cond.code ⟨"OppositeThreadsModel", "days", "(II)V"⟩ prog_9_method_31_code 6 none ∈ jx_G := jx_mem 917 rfl (by decide +kernel)
theorem jk_Model_days : jx_okM jx_nm 132 jm_Model_days (⟨"OppositeThreadsModel", "days", "(II)V"⟩, prog_9_method_31_code, none) := ⟨by decide, jd_Model_days, jo_Model, ji_Model_inic, (fun h => by cases h), jk_Model_days_w, Or.inl ⟨rfl, rfl⟩, (fun h => by cases h), rfl, by decide, ji_Model_ini, by decide, by decide⟩
set_option maxRecDepth 100000 in
theorem jk_Model_knownBy_w : Cond.code ⟨"OppositeThreadsModel", "knownBy", "(I)I"⟩ prog_9_method_32_code 4 (some Jvm.ClassFile.FieldType.int) ∈ jx_G := jx_mem 899 rfl (by decide +kernel)
theorem jk_Model_knownBy : jx_okM jx_nm 133 jm_Model_knownBy (⟨"OppositeThreadsModel", "knownBy", "(I)I"⟩, prog_9_method_32_code, (some Jvm.ClassFile.FieldType.int)) := ⟨by decide, jd_Model_knownBy, jo_Model, ji_Model_inic, (fun h => by cases h), jk_Model_knownBy_w, Or.inr (Or.inl ⟨rfl, rfl⟩), (fun h => by cases h), rfl, by decide, ji_Model_ini, by decide, by decide⟩
set_option maxRecDepth 100000 in
theorem jk_Model_man_w : Cond.code ⟨"OppositeThreadsModel", "man", "(II)I"⟩ prog_9_method_33_code 3 (some Jvm.ClassFile.FieldType.int) ∈ jx_G := jx_mem 868 rfl (by decide +kernel)
theorem jk_Model_man : jx_okM jx_nm 134 jm_Model_man (⟨"OppositeThreadsModel", "man", "(II)I"⟩, prog_9_method_33_code, (some Jvm.ClassFile.FieldType.int)) := ⟨by decide, jd_Model_man, jo_Model, ji_Model_inic, (fun h => by cases h), jk_Model_man_w, Or.inr (Or.inl ⟨rfl, rfl⟩), (fun h => by cases h), rfl, by decide, ji_Model_ini, by decide, by decide⟩
set_option maxRecDepth 100000 in
theorem jk_Model_as_w : Cond.code ⟨"OppositeThreadsModel", "as", "(II)I"⟩ prog_9_method_34_code 5 (some Jvm.ClassFile.FieldType.int) ∈ jx_G := jx_mem 903 rfl (by decide +kernel)
theorem jk_Model_as : jx_okM jx_nm 135 jm_Model_as (⟨"OppositeThreadsModel", "as", "(II)I"⟩, prog_9_method_34_code, (some Jvm.ClassFile.FieldType.int)) := ⟨by decide, jd_Model_as, jo_Model, ji_Model_inic, (fun h => by cases h), jk_Model_as_w, Or.inr (Or.inl ⟨rfl, rfl⟩), (fun h => by cases h), rfl, by decide, ji_Model_ini, by decide, by decide⟩
set_option maxRecDepth 100000 in
theorem jk_Model_keepPast_w : Cond.code ⟨"OppositeThreadsModel", "keepPast", "()V"⟩ prog_9_method_35_code 2 none ∈ jx_G := jx_mem 913 rfl (by decide +kernel)
theorem jk_Model_keepPast : jx_okM jx_nm 136 jm_Model_keepPast (⟨"OppositeThreadsModel", "keepPast", "()V"⟩, prog_9_method_35_code, none) := ⟨by decide, jd_Model_keepPast, jo_Model, ji_Model_inic, (fun h => by cases h), jk_Model_keepPast_w, Or.inl ⟨rfl, rfl⟩, (fun h => by cases h), rfl, by decide, ji_Model_ini, by decide, by decide⟩
set_option maxRecDepth 100000 in
theorem jk_Model_day_w : Cond.code ⟨"OppositeThreadsModel", "day", "(I)I"⟩ prog_9_method_36_code 2 (some Jvm.ClassFile.FieldType.int) ∈ jx_G := jx_mem 908 rfl (by decide +kernel)
theorem jk_Model_day : jx_okM jx_nm 137 jm_Model_day (⟨"OppositeThreadsModel", "day", "(I)I"⟩, prog_9_method_36_code, (some Jvm.ClassFile.FieldType.int)) := ⟨by decide, jd_Model_day, jo_Model, ji_Model_inic, (fun h => by cases h), jk_Model_day_w, Or.inr (Or.inl ⟨rfl, rfl⟩), (fun h => by cases h), rfl, by decide, ji_Model_ini, by decide, by decide⟩
set_option maxRecDepth 100000 in
theorem jk_Model_mend_w : Cond.code ⟨"OppositeThreadsModel", "mend", "(II)I"⟩ prog_9_method_37_code 4 (some Jvm.ClassFile.FieldType.int) ∈ jx_G := jx_mem 928 rfl (by decide +kernel)
theorem jk_Model_mend : jx_okM jx_nm 138 jm_Model_mend (⟨"OppositeThreadsModel", "mend", "(II)I"⟩, prog_9_method_37_code, (some Jvm.ClassFile.FieldType.int)) := ⟨by decide, jd_Model_mend, jo_Model, ji_Model_inic, (fun h => by cases h), jk_Model_mend_w, Or.inr (Or.inl ⟨rfl, rfl⟩), (fun h => by cases h), rfl, by decide, ji_Model_ini, by decide, by decide⟩
set_option maxRecDepth 100000 in
theorem jk_Model_swap_w : Cond.code ⟨"OppositeThreadsModel", "swap", "(II)I"⟩ prog_9_method_38_code 4 (some Jvm.ClassFile.FieldType.int) ∈ jx_G := jx_mem 932 rfl (by decide +kernel)
theorem jk_Model_swap : jx_okM jx_nm 139 jm_Model_swap (⟨"OppositeThreadsModel", "swap", "(II)I"⟩, prog_9_method_38_code, (some Jvm.ClassFile.FieldType.int)) := ⟨by decide, jd_Model_swap, jo_Model, ji_Model_inic, (fun h => by cases h), jk_Model_swap_w, Or.inr (Or.inl ⟨rfl, rfl⟩), (fun h => by cases h), rfl, by decide, ji_Model_ini, by decide, by decide⟩
set_option maxRecDepth 100000 in
theorem jk_Model_undo_w : Cond.code ⟨"OppositeThreadsModel", "undo", "()I"⟩ prog_9_method_39_code 1 (some Jvm.ClassFile.FieldType.int) ∈ jx_G := jx_mem 936 rfl (by decide +kernel)
theorem jk_Model_undo : jx_okM jx_nm 140 jm_Model_undo (⟨"OppositeThreadsModel", "undo", "()I"⟩, prog_9_method_39_code, (some Jvm.ClassFile.FieldType.int)) := ⟨by decide, jd_Model_undo, jo_Model, ji_Model_inic, (fun h => by cases h), jk_Model_undo_w, Or.inr (Or.inl ⟨rfl, rfl⟩), (fun h => by cases h), rfl, by decide, ji_Model_ini, by decide, by decide⟩
set_option maxRecDepth 100000 in
theorem jk_Model_keep_w : Cond.code ⟨"OppositeThreadsModel", "keep", "(I)I"⟩ prog_9_method_40_code 2 (some Jvm.ClassFile.FieldType.int) ∈ jx_G := jx_mem 940 rfl (by decide +kernel)
theorem jk_Model_keep : jx_okM jx_nm 141 jm_Model_keep (⟨"OppositeThreadsModel", "keep", "(I)I"⟩, prog_9_method_40_code, (some Jvm.ClassFile.FieldType.int)) := ⟨by decide, jd_Model_keep, jo_Model, ji_Model_inic, (fun h => by cases h), jk_Model_keep_w, Or.inr (Or.inl ⟨rfl, rfl⟩), (fun h => by cases h), rfl, by decide, ji_Model_ini, by decide, by decide⟩
set_option maxRecDepth 100000 in
theorem jk_Model_back_w : Cond.code ⟨"OppositeThreadsModel", "back", "(I)I"⟩ prog_9_method_41_code 2 (some Jvm.ClassFile.FieldType.int) ∈ jx_G := jx_mem 944 rfl (by decide +kernel)
theorem jk_Model_back : jx_okM jx_nm 142 jm_Model_back (⟨"OppositeThreadsModel", "back", "(I)I"⟩, prog_9_method_41_code, (some Jvm.ClassFile.FieldType.int)) := ⟨by decide, jd_Model_back, jo_Model, ji_Model_inic, (fun h => by cases h), jk_Model_back_w, Or.inr (Or.inl ⟨rfl, rfl⟩), (fun h => by cases h), rfl, by decide, ji_Model_ini, by decide, by decide⟩
set_option maxRecDepth 100000 in
theorem jk_Model_layTried_w : Cond.code ⟨"OppositeThreadsModel", "layTried", "()V"⟩ prog_9_method_42_code 1 none ∈ jx_G := jx_mem 953 rfl (by decide +kernel)
theorem jk_Model_layTried : jx_okM jx_nm 143 jm_Model_layTried (⟨"OppositeThreadsModel", "layTried", "()V"⟩, prog_9_method_42_code, none) := ⟨by decide, jd_Model_layTried, jo_Model, ji_Model_inic, (fun h => by cases h), jk_Model_layTried_w, Or.inl ⟨rfl, rfl⟩, (fun h => by cases h), rfl, by decide, ji_Model_ini, by decide, by decide⟩
set_option maxRecDepth 100000 in
theorem jk_Model_behind_w : Cond.code ⟨"OppositeThreadsModel", "behind", "(II)I"⟩ prog_9_method_43_code 3 (some Jvm.ClassFile.FieldType.int) ∈ jx_G := jx_mem 948 rfl (by decide +kernel)
theorem jk_Model_behind : jx_okM jx_nm 144 jm_Model_behind (⟨"OppositeThreadsModel", "behind", "(II)I"⟩, prog_9_method_43_code, (some Jvm.ClassFile.FieldType.int)) := ⟨by decide, jd_Model_behind, jo_Model, ji_Model_inic, (fun h => by cases h), jk_Model_behind_w, Or.inr (Or.inl ⟨rfl, rfl⟩), (fun h => by cases h), rfl, by decide, ji_Model_ini, by decide, by decide⟩
set_option maxRecDepth 100000 in
theorem jk_Model_home_w : Cond.code ⟨"OppositeThreadsModel", "home", "(I)I"⟩ prog_9_method_44_code 3 (some Jvm.ClassFile.FieldType.int) ∈ jx_G := jx_mem 957 rfl (by decide +kernel)
theorem jk_Model_home : jx_okM jx_nm 145 jm_Model_home (⟨"OppositeThreadsModel", "home", "(I)I"⟩, prog_9_method_44_code, (some Jvm.ClassFile.FieldType.int)) := ⟨by decide, jd_Model_home, jo_Model, ji_Model_inic, (fun h => by cases h), jk_Model_home_w, Or.inr (Or.inl ⟨rfl, rfl⟩), (fun h => by cases h), rfl, by decide, ji_Model_ini, by decide, by decide⟩
set_option maxRecDepth 100000 in
theorem jk_Model_aiming_w : Cond.code ⟨"OppositeThreadsModel", "aiming", "(I)I"⟩ prog_9_method_45_code 4 (some Jvm.ClassFile.FieldType.int) ∈ jx_G := jx_mem 965 rfl (by decide +kernel)
theorem jk_Model_aiming : jx_okM jx_nm 146 jm_Model_aiming (⟨"OppositeThreadsModel", "aiming", "(I)I"⟩, prog_9_method_45_code, (some Jvm.ClassFile.FieldType.int)) := ⟨by decide, jd_Model_aiming, jo_Model, ji_Model_inic, (fun h => by cases h), jk_Model_aiming_w, Or.inr (Or.inl ⟨rfl, rfl⟩), (fun h => by cases h), rfl, by decide, ji_Model_ini, by decide, by decide⟩
set_option maxRecDepth 100000 in
theorem jk_Model_quiet_w : Cond.code ⟨"OppositeThreadsModel", "quiet", "()I"⟩ prog_9_method_46_code 2 (some Jvm.ClassFile.FieldType.int) ∈ jx_G := jx_mem 961 rfl (by decide +kernel)
theorem jk_Model_quiet : jx_okM jx_nm 147 jm_Model_quiet (⟨"OppositeThreadsModel", "quiet", "()I"⟩, prog_9_method_46_code, (some Jvm.ClassFile.FieldType.int)) := ⟨by decide, jd_Model_quiet, jo_Model, ji_Model_inic, (fun h => by cases h), jk_Model_quiet_w, Or.inr (Or.inl ⟨rfl, rfl⟩), (fun h => by cases h), rfl, by decide, ji_Model_ini, by decide, by decide⟩
set_option maxRecDepth 100000 in
theorem jk_Model_outOnes_w : Cond.code ⟨"OppositeThreadsModel", "outOnes", "(I)I"⟩ prog_9_method_47_code 4 (some Jvm.ClassFile.FieldType.int) ∈ jx_G := jx_mem 982 rfl (by decide +kernel)
theorem jk_Model_outOnes : jx_okM jx_nm 148 jm_Model_outOnes (⟨"OppositeThreadsModel", "outOnes", "(I)I"⟩, prog_9_method_47_code, (some Jvm.ClassFile.FieldType.int)) := ⟨by decide, jd_Model_outOnes, jo_Model, ji_Model_inic, (fun h => by cases h), jk_Model_outOnes_w, Or.inr (Or.inl ⟨rfl, rfl⟩), (fun h => by cases h), rfl, by decide, ji_Model_ini, by decide, by decide⟩
set_option maxRecDepth 100000 in
theorem jk_Model_left_w : Cond.code ⟨"OppositeThreadsModel", "left", "(II)I"⟩ prog_9_method_48_code 5 (some Jvm.ClassFile.FieldType.int) ∈ jx_G := jx_mem 969 rfl (by decide +kernel)
theorem jk_Model_left : jx_okM jx_nm 149 jm_Model_left (⟨"OppositeThreadsModel", "left", "(II)I"⟩, prog_9_method_48_code, (some Jvm.ClassFile.FieldType.int)) := ⟨by decide, jd_Model_left, jo_Model, ji_Model_inic, (fun h => by cases h), jk_Model_left_w, Or.inr (Or.inl ⟨rfl, rfl⟩), (fun h => by cases h), rfl, by decide, ji_Model_ini, by decide, by decide⟩
set_option maxRecDepth 100000 in
theorem jk_Model_leftBehind_w : Cond.code ⟨"OppositeThreadsModel", "leftBehind", "(I)I"⟩ prog_9_method_49_code 2 (some Jvm.ClassFile.FieldType.int) ∈ jx_G := jx_mem 978 rfl (by decide +kernel)
theorem jk_Model_leftBehind : jx_okM jx_nm 150 jm_Model_leftBehind (⟨"OppositeThreadsModel", "leftBehind", "(I)I"⟩, prog_9_method_49_code, (some Jvm.ClassFile.FieldType.int)) := ⟨by decide, jd_Model_leftBehind, jo_Model, ji_Model_inic, (fun h => by cases h), jk_Model_leftBehind_w, Or.inr (Or.inl ⟨rfl, rfl⟩), (fun h => by cases h), rfl, by decide, ji_Model_ini, by decide, by decide⟩
set_option maxRecDepth 100000 in
theorem jk_Model_coat_w : Cond.code ⟨"OppositeThreadsModel", "coat", "(I)I"⟩ prog_9_method_50_code 7 (some Jvm.ClassFile.FieldType.int) ∈ jx_G := jx_mem 973 rfl (by decide +kernel)
theorem jk_Model_coat : jx_okM jx_nm 151 jm_Model_coat (⟨"OppositeThreadsModel", "coat", "(I)I"⟩, prog_9_method_50_code, (some Jvm.ClassFile.FieldType.int)) := ⟨by decide, jd_Model_coat, jo_Model, ji_Model_inic, (fun h => by cases h), jk_Model_coat_w, Or.inr (Or.inl ⟨rfl, rfl⟩), (fun h => by cases h), rfl, by decide, ji_Model_ini, by decide, by decide⟩
set_option maxRecDepth 100000 in
theorem jk_Model_swapOrder_w : Cond.code ⟨"OppositeThreadsModel", "swapOrder", "(II)V"⟩ prog_9_method_51_code 4 none ∈ jx_G := jx_mem 998 rfl (by decide +kernel)
theorem jk_Model_swapOrder : jx_okM jx_nm 152 jm_Model_swapOrder (⟨"OppositeThreadsModel", "swapOrder", "(II)V"⟩, prog_9_method_51_code, none) := ⟨by decide, jd_Model_swapOrder, jo_Model, ji_Model_inic, (fun h => by cases h), jk_Model_swapOrder_w, Or.inl ⟨rfl, rfl⟩, (fun h => by cases h), rfl, by decide, ji_Model_ini, by decide, by decide⟩
set_option maxRecDepth 100000 in
theorem jk_Model_nextOrder_w : Cond.code ⟨"OppositeThreadsModel", "nextOrder", "()Z"⟩ prog_9_method_52_code 6 (some Jvm.ClassFile.FieldType.boolean) ∈ jx_G := jx_mem 994 rfl (by decide +kernel)
theorem jk_Model_nextOrder : jx_okM jx_nm 153 jm_Model_nextOrder (⟨"OppositeThreadsModel", "nextOrder", "()Z"⟩, prog_9_method_52_code, (some Jvm.ClassFile.FieldType.boolean)) := ⟨by decide, jd_Model_nextOrder, jo_Model, ji_Model_inic, (fun h => by cases h), jk_Model_nextOrder_w, Or.inr (Or.inr (Or.inr (Or.inr (Or.inl ⟨rfl, rfl⟩)))), (fun h => by cases h), rfl, by decide, ji_Model_ini, by decide, by decide⟩
set_option maxRecDepth 100000 in
theorem jk_Model_pairs_w : Cond.code ⟨"OppositeThreadsModel", "pairs", "(III)I"⟩ prog_9_method_53_code 9 (some Jvm.ClassFile.FieldType.int) ∈ jx_G := jx_mem 989 rfl (by decide +kernel)
theorem jk_Model_pairs : jx_okM jx_nm 154 jm_Model_pairs (⟨"OppositeThreadsModel", "pairs", "(III)I"⟩, prog_9_method_53_code, (some Jvm.ClassFile.FieldType.int)) := ⟨by decide, jd_Model_pairs, jo_Model, ji_Model_inic, (fun h => by cases h), jk_Model_pairs_w, Or.inr (Or.inl ⟨rfl, rfl⟩), (fun h => by cases h), rfl, by decide, ji_Model_ini, by decide, by decide⟩
set_option maxRecDepth 100000 in
theorem jk_Model_keeps_w : Cond.code ⟨"OppositeThreadsModel", "keeps", "(III)I"⟩ prog_9_method_54_code 11 (some Jvm.ClassFile.FieldType.int) ∈ jx_G := jx_mem 1002 rfl (by decide +kernel)
theorem jk_Model_keeps : jx_okM jx_nm 155 jm_Model_keeps (⟨"OppositeThreadsModel", "keeps", "(III)I"⟩, prog_9_method_54_code, (some Jvm.ClassFile.FieldType.int)) := ⟨by decide, jd_Model_keeps, jo_Model, ji_Model_inic, (fun h => by cases h), jk_Model_keeps_w, Or.inr (Or.inl ⟨rfl, rfl⟩), (fun h => by cases h), rfl, by decide, ji_Model_ini, by decide, by decide⟩
set_option maxRecDepth 100000 in
theorem jk_Model_seen_w : Cond.code ⟨"OppositeThreadsModel", "seen", "(III)I"⟩ prog_9_method_55_code 4 (some Jvm.ClassFile.FieldType.int) ∈ jx_G := jx_mem 1007 rfl (by decide +kernel)
theorem jk_Model_seen : jx_okM jx_nm 156 jm_Model_seen (⟨"OppositeThreadsModel", "seen", "(III)I"⟩, prog_9_method_55_code, (some Jvm.ClassFile.FieldType.int)) := ⟨by decide, jd_Model_seen, jo_Model, ji_Model_inic, (fun h => by cases h), jk_Model_seen_w, Or.inr (Or.inl ⟨rfl, rfl⟩), (fun h => by cases h), rfl, by decide, ji_Model_ini, by decide, by decide⟩
set_option maxRecDepth 100000 in
theorem jk_Model_forget_w : Cond.code ⟨"OppositeThreadsModel", "forget", "()I"⟩ prog_9_method_56_code 2 (some Jvm.ClassFile.FieldType.int) ∈ jx_G := jx_mem 1012 rfl (by decide +kernel)
theorem jk_Model_forget : jx_okM jx_nm 157 jm_Model_forget (⟨"OppositeThreadsModel", "forget", "()I"⟩, prog_9_method_56_code, (some Jvm.ClassFile.FieldType.int)) := ⟨by decide, jd_Model_forget, jo_Model, ji_Model_inic, (fun h => by cases h), jk_Model_forget_w, Or.inr (Or.inl ⟨rfl, rfl⟩), (fun h => by cases h), rfl, by decide, ji_Model_ini, by decide, by decide⟩
set_option maxRecDepth 100000 in
theorem jk_Model_aimsBy_w : Cond.code ⟨"OppositeThreadsModel", "aimsBy", "(II)I"⟩ prog_9_method_57_code 2 (some Jvm.ClassFile.FieldType.int) ∈ jx_G := jx_mem 1019 rfl (by decide +kernel)
theorem jk_Model_aimsBy : jx_okM jx_nm 158 jm_Model_aimsBy (⟨"OppositeThreadsModel", "aimsBy", "(II)I"⟩, prog_9_method_57_code, (some Jvm.ClassFile.FieldType.int)) := ⟨by decide, jd_Model_aimsBy, jo_Model, ji_Model_inic, (fun h => by cases h), jk_Model_aimsBy_w, Or.inr (Or.inl ⟨rfl, rfl⟩), (fun h => by cases h), rfl, by decide, ji_Model_ini, by decide, by decide⟩
set_option maxRecDepth 100000 in
theorem jk_Model_kinds_w : Cond.code ⟨"OppositeThreadsModel", "kinds", "()I"⟩ prog_9_method_58_code 5 (some Jvm.ClassFile.FieldType.int) ∈ jx_G := jx_mem 1016 rfl (by decide +kernel)
theorem jk_Model_kinds : jx_okM jx_nm 159 jm_Model_kinds (⟨"OppositeThreadsModel", "kinds", "()I"⟩, prog_9_method_58_code, (some Jvm.ClassFile.FieldType.int)) := ⟨by decide, jd_Model_kinds, jo_Model, ji_Model_inic, (fun h => by cases h), jk_Model_kinds_w, Or.inr (Or.inl ⟨rfl, rfl⟩), (fun h => by cases h), rfl, by decide, ji_Model_ini, by decide, by decide⟩
set_option maxRecDepth 100000 in
theorem jk_Model_ask_w : Cond.code ⟨"OppositeThreadsModel", "ask", "()I"⟩ prog_9_method_59_code 9 (some Jvm.ClassFile.FieldType.int) ∈ jx_G := jx_mem 1023 rfl (by decide +kernel)
theorem jk_Model_ask : jx_okM jx_nm 160 jm_Model_ask (⟨"OppositeThreadsModel", "ask", "()I"⟩, prog_9_method_59_code, (some Jvm.ClassFile.FieldType.int)) := ⟨by decide, jd_Model_ask, jo_Model, ji_Model_inic, (fun h => by cases h), jk_Model_ask_w, Or.inr (Or.inl ⟨rfl, rfl⟩), (fun h => by cases h), rfl, by decide, ji_Model_ini, by decide, by decide⟩
set_option maxRecDepth 100000 in
theorem jk_Model_isSheet_w : Cond.code ⟨"OppositeThreadsModel", "isSheet", "(I)Z"⟩ prog_9_method_60_code 1 (some Jvm.ClassFile.FieldType.boolean) ∈ jx_G := jx_mem 1031 rfl (by decide +kernel)
theorem jk_Model_isSheet : jx_okM jx_nm 161 jm_Model_isSheet (⟨"OppositeThreadsModel", "isSheet", "(I)Z"⟩, prog_9_method_60_code, (some Jvm.ClassFile.FieldType.boolean)) := ⟨by decide, jd_Model_isSheet, jo_Model, ji_Model_inic, (fun h => by cases h), jk_Model_isSheet_w, Or.inr (Or.inr (Or.inr (Or.inr (Or.inl ⟨rfl, rfl⟩)))), (fun h => by cases h), rfl, by decide, ji_Model_ini, by decide, by decide⟩
set_option maxRecDepth 100000 in
theorem jk_Model_sheet_w : Cond.code ⟨"OppositeThreadsModel", "sheet", "(III)I"⟩ prog_9_method_61_code 5 (some Jvm.ClassFile.FieldType.int) ∈ jx_G := jx_mem 1028 rfl (by decide +kernel)
theorem jk_Model_sheet : jx_okM jx_nm 162 jm_Model_sheet (⟨"OppositeThreadsModel", "sheet", "(III)I"⟩, prog_9_method_61_code, (some Jvm.ClassFile.FieldType.int)) := ⟨by decide, jd_Model_sheet, jo_Model, ji_Model_inic, (fun h => by cases h), jk_Model_sheet_w, Or.inr (Or.inl ⟨rfl, rfl⟩), (fun h => by cases h), rfl, by decide, ji_Model_ini, by decide, by decide⟩
set_option maxRecDepth 100000 in
theorem jk_Model_noPlace_w : Cond.code ⟨"OppositeThreadsModel", "noPlace", "(III)I"⟩ prog_9_method_62_code 4 (some Jvm.ClassFile.FieldType.int) ∈ jx_G := jx_mem 1042 rfl (by decide +kernel)
theorem jk_Model_noPlace : jx_okM jx_nm 163 jm_Model_noPlace (⟨"OppositeThreadsModel", "noPlace", "(III)I"⟩, prog_9_method_62_code, (some Jvm.ClassFile.FieldType.int)) := ⟨by decide, jd_Model_noPlace, jo_Model, ji_Model_inic, (fun h => by cases h), jk_Model_noPlace_w, Or.inr (Or.inl ⟨rfl, rfl⟩), (fun h => by cases h), rfl, by decide, ji_Model_ini, by decide, by decide⟩
set_option maxRecDepth 100000 in
theorem jk_Model_set_w : Cond.code ⟨"OppositeThreadsModel", "set", "(IIII)I"⟩ prog_9_method_63_code 7 (some Jvm.ClassFile.FieldType.int) ∈ jx_G := jx_mem 1036 rfl (by decide +kernel)
theorem jk_Model_set : jx_okM jx_nm 164 jm_Model_set (⟨"OppositeThreadsModel", "set", "(IIII)I"⟩, prog_9_method_63_code, (some Jvm.ClassFile.FieldType.int)) := ⟨by decide, jd_Model_set, jo_Model, ji_Model_inic, (fun h => by cases h), jk_Model_set_w, Or.inr (Or.inl ⟨rfl, rfl⟩), (fun h => by cases h), rfl, by decide, ji_Model_ini, by decide, by decide⟩
set_option maxRecDepth 100000 in
theorem jk_Model_get_w : Cond.code ⟨"OppositeThreadsModel", "get", "(III)I"⟩ prog_9_method_64_code 5 (some Jvm.ClassFile.FieldType.int) ∈ jx_G := jx_mem 1047 rfl (by decide +kernel)
theorem jk_Model_get : jx_okM jx_nm 165 jm_Model_get (⟨"OppositeThreadsModel", "get", "(III)I"⟩, prog_9_method_64_code, (some Jvm.ClassFile.FieldType.int)) := ⟨by decide, jd_Model_get, jo_Model, ji_Model_inic, (fun h => by cases h), jk_Model_get_w, Or.inr (Or.inl ⟨rfl, rfl⟩), (fun h => by cases h), rfl, by decide, ji_Model_ini, by decide, by decide⟩
set_option maxRecDepth 100000 in
theorem jk_Model_isSpan_w : Cond.code ⟨"OppositeThreadsModel", "isSpan", "(III)Z"⟩ prog_9_method_65_code 4 (some Jvm.ClassFile.FieldType.boolean) ∈ jx_G := jx_mem 1055 rfl (by decide +kernel)
theorem jk_Model_isSpan : jx_okM jx_nm 166 jm_Model_isSpan (⟨"OppositeThreadsModel", "isSpan", "(III)Z"⟩, prog_9_method_65_code, (some Jvm.ClassFile.FieldType.boolean)) := ⟨by decide, jd_Model_isSpan, jo_Model, ji_Model_inic, (fun h => by cases h), jk_Model_isSpan_w, Or.inr (Or.inr (Or.inr (Or.inr (Or.inl ⟨rfl, rfl⟩)))), (fun h => by cases h), rfl, by decide, ji_Model_ini, by decide, by decide⟩
set_option maxRecDepth 100000 in
theorem jk_Model_copy_w : Cond.code ⟨"OppositeThreadsModel", "copy", "(IIIII)I"⟩ prog_9_method_66_code 9 (some Jvm.ClassFile.FieldType.int) ∈ jx_G := jx_mem 1051 rfl (by decide +kernel)
theorem jk_Model_copy : jx_okM jx_nm 167 jm_Model_copy (⟨"OppositeThreadsModel", "copy", "(IIIII)I"⟩, prog_9_method_66_code, (some Jvm.ClassFile.FieldType.int)) := ⟨by decide, jd_Model_copy, jo_Model, ji_Model_inic, (fun h => by cases h), jk_Model_copy_w, Or.inr (Or.inl ⟨rfl, rfl⟩), (fun h => by cases h), rfl, by decide, ji_Model_ini, by decide, by decide⟩
set_option maxRecDepth 100000 in
theorem jk_Model_join_w : Cond.code ⟨"OppositeThreadsModel", "join", "(II)I"⟩ prog_9_method_67_code 5 (some Jvm.ClassFile.FieldType.int) ∈ jx_G := jx_mem 1059 rfl (by decide +kernel)
theorem jk_Model_join : jx_okM jx_nm 168 jm_Model_join (⟨"OppositeThreadsModel", "join", "(II)I"⟩, prog_9_method_67_code, (some Jvm.ClassFile.FieldType.int)) := ⟨by decide, jd_Model_join, jo_Model, ji_Model_inic, (fun h => by cases h), jk_Model_join_w, Or.inr (Or.inl ⟨rfl, rfl⟩), (fun h => by cases h), rfl, by decide, ji_Model_ini, by decide, by decide⟩
set_option maxRecDepth 100000 in
theorem jk_Model_sum_w : Cond.code ⟨"OppositeThreadsModel", "sum", "(I)I"⟩ prog_9_method_68_code 4 (some Jvm.ClassFile.FieldType.int) ∈ jx_G := jx_mem 1063 rfl (by decide +kernel)
theorem jk_Model_sum : jx_okM jx_nm 169 jm_Model_sum (⟨"OppositeThreadsModel", "sum", "(I)I"⟩, prog_9_method_68_code, (some Jvm.ClassFile.FieldType.int)) := ⟨by decide, jd_Model_sum, jo_Model, ji_Model_inic, (fun h => by cases h), jk_Model_sum_w, Or.inr (Or.inl ⟨rfl, rfl⟩), (fun h => by cases h), rfl, by decide, ji_Model_ini, by decide, by decide⟩
set_option maxRecDepth 100000 in
theorem jk_Model_drop_w : Cond.code ⟨"OppositeThreadsModel", "drop", "(I)I"⟩ prog_9_method_69_code 3 (some Jvm.ClassFile.FieldType.int) ∈ jx_G := jx_mem 1068 rfl (by decide +kernel)
theorem jk_Model_drop : jx_okM jx_nm 170 jm_Model_drop (⟨"OppositeThreadsModel", "drop", "(I)I"⟩, prog_9_method_69_code, (some Jvm.ClassFile.FieldType.int)) := ⟨by decide, jd_Model_drop, jo_Model, ji_Model_inic, (fun h => by cases h), jk_Model_drop_w, Or.inr (Or.inl ⟨rfl, rfl⟩), (fun h => by cases h), rfl, by decide, ji_Model_ini, by decide, by decide⟩
set_option maxRecDepth 100000 in
theorem jk_Model_buttonsOf_w : Cond.code ⟨"OppositeThreadsModel", "buttonsOf", "(I)I"⟩ prog_9_method_70_code 4 (some Jvm.ClassFile.FieldType.int) ∈ jx_G := jx_mem 1076 rfl (by decide +kernel)
theorem jk_Model_buttonsOf : jx_okM jx_nm 171 jm_Model_buttonsOf (⟨"OppositeThreadsModel", "buttonsOf", "(I)I"⟩, prog_9_method_70_code, (some Jvm.ClassFile.FieldType.int)) := ⟨by decide, jd_Model_buttonsOf, jo_Model, ji_Model_inic, (fun h => by cases h), jk_Model_buttonsOf_w, Or.inr (Or.inl ⟨rfl, rfl⟩), (fun h => by cases h), rfl, by decide, ji_Model_ini, by decide, by decide⟩
set_option maxRecDepth 100000 in
theorem jk_Model_allPlaces_w : Cond.code ⟨"OppositeThreadsModel", "allPlaces", "()I"⟩ prog_9_method_71_code 3 (some Jvm.ClassFile.FieldType.int) ∈ jx_G := jx_mem 1080 rfl (by decide +kernel)
theorem jk_Model_allPlaces : jx_okM jx_nm 172 jm_Model_allPlaces (⟨"OppositeThreadsModel", "allPlaces", "()I"⟩, prog_9_method_71_code, (some Jvm.ClassFile.FieldType.int)) := ⟨by decide, jd_Model_allPlaces, jo_Model, ji_Model_inic, (fun h => by cases h), jk_Model_allPlaces_w, Or.inr (Or.inl ⟨rfl, rfl⟩), (fun h => by cases h), rfl, by decide, ji_Model_ini, by decide, by decide⟩
set_option maxRecDepth 100000 in
theorem jk_Model_count_w : Cond.code ⟨"OppositeThreadsModel", "count", "(I)I"⟩ prog_9_method_72_code 2 (some Jvm.ClassFile.FieldType.int) ∈ jx_G := jx_mem 1072 rfl (by decide +kernel)
theorem jk_Model_count : jx_okM jx_nm 173 jm_Model_count (⟨"OppositeThreadsModel", "count", "(I)I"⟩, prog_9_method_72_code, (some Jvm.ClassFile.FieldType.int)) := ⟨by decide, jd_Model_count, jo_Model, ji_Model_inic, (fun h => by cases h), jk_Model_count_w, Or.inr (Or.inl ⟨rfl, rfl⟩), (fun h => by cases h), rfl, by decide, ji_Model_ini, by decide, by decide⟩
theorem ji_Integer_ini : Cond.initialized "java/lang/Integer" ∈ jx_G := jx_mem 64 (by decide +kernel) (by decide +kernel)
theorem ji_Integer_inic : jx_cno 31 "java/lang/Integer" := fun r h => by cases h
set_option maxRecDepth 100000 in
theorem jk_Integer_bitCount_w : Cond.code ⟨"java/lang/Integer", "bitCount", "(I)I"⟩ prog_10_method_49_code 1 (some Jvm.ClassFile.FieldType.int) ∈ jx_G := jx_mem 558 rfl (by decide +kernel)
theorem jk_Integer_bitCount : jx_okM jx_nm 174 jm_Integer_bitCount (⟨"java/lang/Integer", "bitCount", "(I)I"⟩, prog_10_method_49_code, (some Jvm.ClassFile.FieldType.int)) := ⟨by decide, jd_Integer_bitCount, jo_Integer, ji_Integer_inic, (fun h => by cases h), jk_Integer_bitCount_w, Or.inr (Or.inl ⟨rfl, rfl⟩), (fun h => by cases h), rfl, by decide, ji_Integer_ini, by decide, by decide⟩
theorem ji_String_ini : Cond.initialized "java/lang/String" ∈ jx_G := jx_mem 59 (by decide +kernel) (by decide +kernel)
theorem ji_String_inic : jx_cno 20 "java/lang/String" := fun r h => by cases h
set_option maxRecDepth 100000 in
theorem jk_String_length_w : Cond.code ⟨"java/lang/String", "length", "()I"⟩ prog_12_method_54_code 1 (some Jvm.ClassFile.FieldType.int) ∈ jx_G := jx_mem 293 rfl (by decide +kernel)
theorem jk_String_length : jx_okM jx_nm 175 jm_String_length (⟨"java/lang/String", "length", "()I"⟩, prog_12_method_54_code, (some Jvm.ClassFile.FieldType.int)) := ⟨by decide, jd_String_length, jo_String, ji_String_inic, (fun _ => rfl), jk_String_length_w, Or.inr (Or.inl ⟨rfl, rfl⟩), (fun h => by cases h), rfl, by decide, ji_String_ini, by decide, by decide⟩
set_option maxRecDepth 100000 in
theorem jk_String_charAt_w : Cond.code ⟨"java/lang/String", "charAt", "(I)C"⟩ prog_12_method_56_code 2 (some Jvm.ClassFile.FieldType.char) ∈ jx_G := jx_mem 303 rfl (by decide +kernel)
theorem jk_String_charAt : jx_okM jx_nm 176 jm_String_charAt (⟨"java/lang/String", "charAt", "(I)C"⟩, prog_12_method_56_code, (some Jvm.ClassFile.FieldType.char)) := ⟨by decide, jd_String_charAt, jo_String, ji_String_inic, (fun _ => rfl), jk_String_charAt_w, Or.inr (Or.inr (Or.inr (Or.inr (Or.inr (Or.inl ⟨rfl, rfl⟩))))), (fun h => by cases h), rfl, by decide, ji_String_ini, by decide, by decide⟩
set_option maxRecDepth 100000 in
theorem jk_String_coder_w : Cond.code ⟨"java/lang/String", "coder", "()B"⟩ prog_12_method_152_code 1 (some Jvm.ClassFile.FieldType.byte) ∈ jx_G := jx_mem 297 rfl (by decide +kernel)
theorem jk_String_coder : jx_okM jx_nm 177 jm_String_coder (⟨"java/lang/String", "coder", "()B"⟩, prog_12_method_152_code, (some Jvm.ClassFile.FieldType.byte)) := ⟨by decide, jd_String_coder, jo_String, ji_String_inic, (fun _ => rfl), jk_String_coder_w, Or.inr (Or.inr (Or.inr (Or.inr (Or.inr (Or.inr ⟨rfl, rfl⟩))))), (fun h => by cases h), rfl, by decide, ji_String_ini, by decide, by decide⟩
set_option maxRecDepth 100000 in
theorem jk_String_isLatin1_w : Cond.code ⟨"java/lang/String", "isLatin1", "()Z"⟩ prog_12_method_154_code 1 (some Jvm.ClassFile.FieldType.boolean) ∈ jx_G := jx_mem 307 rfl (by decide +kernel)
theorem jk_String_isLatin1 : jx_okM jx_nm 178 jm_String_isLatin1 (⟨"java/lang/String", "isLatin1", "()Z"⟩, prog_12_method_154_code, (some Jvm.ClassFile.FieldType.boolean)) := ⟨by decide, jd_String_isLatin1, jo_String, ji_String_inic, (fun _ => rfl), jk_String_isLatin1_w, Or.inr (Or.inr (Or.inr (Or.inr (Or.inl ⟨rfl, rfl⟩)))), (fun h => by cases h), rfl, by decide, ji_String_ini, by decide, by decide⟩
set_option maxRecDepth 100000 in
theorem jk_String_checkIndex_w : Cond.code ⟨"java/lang/String", "checkIndex", "(II)V"⟩ prog_12_method_155_code 2 none ∈ jx_G := jx_mem 313 rfl (by decide +kernel)
theorem jk_String_checkIndex : jx_okM jx_nm 179 jm_String_checkIndex (⟨"java/lang/String", "checkIndex", "(II)V"⟩, prog_12_method_155_code, none) := ⟨by decide, jd_String_checkIndex, jo_String, ji_String_inic, (fun _ => rfl), jk_String_checkIndex_w, Or.inl ⟨rfl, rfl⟩, (fun h => by cases h), rfl, by decide, ji_String_ini, by decide, by decide⟩
theorem ji_StringLatin1_ini : Cond.initialized "java/lang/StringLatin1" ∈ jx_G := jx_mem 60 (by decide +kernel) (by decide +kernel)
theorem ji_StringLatin1_inic : jx_cno 33 "java/lang/StringLatin1" := fun r h => by cases h
set_option maxRecDepth 100000 in
theorem jk_StringLatin1_charAt_w : Cond.code ⟨"java/lang/StringLatin1", "charAt", "([BI)C"⟩ prog_13_method_2_code 2 (some Jvm.ClassFile.FieldType.char) ∈ jx_G := jx_mem 310 rfl (by decide +kernel)
theorem jk_StringLatin1_charAt : jx_okM jx_nm 180 jm_StringLatin1_charAt (⟨"java/lang/StringLatin1", "charAt", "([BI)C"⟩, prog_13_method_2_code, (some Jvm.ClassFile.FieldType.char)) := ⟨by decide, jd_StringLatin1_charAt, jo_StringLatin1, ji_StringLatin1_inic, (fun h => by cases h), jk_StringLatin1_charAt_w, Or.inr (Or.inr (Or.inr (Or.inr (Or.inr (Or.inl ⟨rfl, rfl⟩))))), (fun h => by cases h), rfl, by decide, ji_StringLatin1_ini, by decide, by decide⟩
theorem ji_Preconditions_ini : Cond.initialized "jdk/internal/util/Preconditions" ∈ jx_G := jx_mem 61 (by decide +kernel) (by decide +kernel)
theorem ji_Preconditions_inic : jx_cno 36 "jdk/internal/util/Preconditions" := fun r h => by cases h
set_option maxRecDepth 100000 in
theorem jk_Preconditions_checkIndex_w : Cond.code ⟨"jdk/internal/util/Preconditions", "checkIndex", "(IILjava/util/function/BiFunction;)I"⟩ prog_16_method_11_code 3 (some Jvm.ClassFile.FieldType.int) ∈ jx_G := jx_mem 318 rfl (by decide +kernel)
theorem jk_Preconditions_checkIndex : jx_okM jx_nm 181 jm_Preconditions_checkIndex (⟨"jdk/internal/util/Preconditions", "checkIndex", "(IILjava/util/function/BiFunction;)I"⟩, prog_16_method_11_code, (some Jvm.ClassFile.FieldType.int)) := ⟨by decide, jd_Preconditions_checkIndex, (fun _ h => absurd h List.not_mem_nil), ji_Preconditions_inic, (fun h => by cases h), jk_Preconditions_checkIndex_w, Or.inr (Or.inl ⟨rfl, rfl⟩), (fun h => by cases h), rfl, by decide, ji_Preconditions_ini, by decide, by decide⟩
theorem jx_allOk : jx_allM jx_nm 0 jx_tabL jx_nm := ⟨jk_Army_init, jk_Army_begin, jk_Army_takeFrom, jk_Army_has, jk_Army_sideOf, jk_Army_firstOf, jk_Army_isHome, jk_Army_isOpen, jk_Army_aimOf, jk_Army_leastOpen, jk_Army_greatestOpen, jk_Army_fullestOpen, jk_Army_pass, jk_Army_passDay, jk_Army_bringHamper, jk_Army_knowersOf, jk_Army_aimersAt, jk_Army_aimers, jk_Army_inField, jk_Army_leftOf, jk_Army_leftOfBoth, jk_Army_buttonsOf, jk_Army_placeInPlan, jk_Army_takePlan, jk_Army_waysToStay, jk_Army_hitsOf, jk_Army_powerOf, jk_Kinds_hitOf, jk_Kinds_aimOn, jk_Kinds_isOne, jk_Past_init, jk_Past_clear, jk_Past_remember, jk_Past_restore, jk_Sheet_init, jk_Sheet_isMissing, jk_Sheet_begin, jk_Sheet_lose, jk_Sheet_holds, jk_Sheet_total, jk_Sightings_init, jk_Sightings_add, jk_Sightings_sightOf, jk_Sightings_sightOfKind, jk_Sightings_fits, jk_Sightings_possibleKinds, jk_Sightings_bestDay, jk_Sightings_greatestPart, jk_Sightings_alikeTo, jk_Text_init, jk_Text_add, jk_Text_readOnto, jk_Text_readClause, jk_Text_readArmy, jk_Text_readButtons, jk_Text_readMender, jk_Text_readWord, jk_Text_wordOf, jk_Text_isToken, jk_Text_readNumber, jk_Text_nextToken, jk_Text_sortOf, jk_Main_init, jk_Main_write, jk_Main_erase, jk_Main_fault, jk_Main_army, jk_Main_man, jk_Main_as, jk_Main_day, jk_Main_mend, jk_Main_swap, jk_Main_undo, jk_Main_keep, jk_Main_back, jk_Main_behind, jk_Main_home, jk_Main_quiet, jk_Main_left, jk_Main_coat, jk_Main_pairs, jk_Main_keeps, jk_Main_seen, jk_Main_forget, jk_Main_kinds, jk_Main_ask, jk_Main_sheet, jk_Main_set, jk_Main_get, jk_Main_copy, jk_Main_join, jk_Main_sum, jk_Main_drop, jk_Main_count, jk_Main_areTwoMen, jk_Main_isSide, jk_Main_isPlanned, jk_Main_isSheet, jk_Main_isSort, jk_Main_commonDivisor, jk_Main_valueAt, jk_Main_placesOfSheets, jk_Model_init, jk_Model_in, jk_Model_has, jk_Model_bits, jk_Model_layArmy, jk_Model_write, jk_Model_erase, jk_Model_isLetter, jk_Model_isDigit, jk_Model_nextToken, jk_Model_isWord, jk_Model_number, jk_Model_kindHere, jk_Model_readsKind, jk_Model_readsArmy, jk_Model_readsButtons, jk_Model_readsMender, jk_Model_readsClause, jk_Model_reads, jk_Model_fault, jk_Model_copyRow, jk_Model_army, jk_Model_men, jk_Model_isMan, jk_Model_sideOf, jk_Model_isOut, jk_Model_isOpen, jk_Model_hitsBy, jk_Model_aimsAt, jk_Model_hamper, jk_Model_days, jk_Model_knownBy, jk_Model_man, jk_Model_as, jk_Model_keepPast, jk_Model_day, jk_Model_mend, jk_Model_swap, jk_Model_undo, jk_Model_keep, jk_Model_back, jk_Model_layTried, jk_Model_behind, jk_Model_home, jk_Model_aiming, jk_Model_quiet, jk_Model_outOnes, jk_Model_left, jk_Model_leftBehind, jk_Model_coat, jk_Model_swapOrder, jk_Model_nextOrder, jk_Model_pairs, jk_Model_keeps, jk_Model_seen, jk_Model_forget, jk_Model_aimsBy, jk_Model_kinds, jk_Model_ask, jk_Model_isSheet, jk_Model_sheet, jk_Model_noPlace, jk_Model_set, jk_Model_get, jk_Model_isSpan, jk_Model_copy, jk_Model_join, jk_Model_sum, jk_Model_drop, jk_Model_buttonsOf, jk_Model_allPlaces, jk_Model_count, jk_Integer_bitCount, jk_String_length, jk_String_charAt, jk_String_coder, jk_String_isLatin1, jk_String_checkIndex, jk_StringLatin1_charAt, jk_Preconditions_checkIndex, trivial⟩
theorem jx_tabHas {c : Nat} {y : jx_Y} (h : jx_nm[c]? = some y) : ∃ M, jx_tab c = some M := by
  have hc : c < 182 := (List.getElem?_eq_some_iff.mp h).1
  have hl : c < jx_tabL.length := Nat.lt_of_lt_of_le hc (by decide +kernel)
  exact ⟨jx_tabL[c], List.getElem?_eq_getElem hl⟩
theorem jx_tabOk {c : Nat} {M : jx_M} {y : jx_Y} (h1 : jx_tab c = some M) (h2 : jx_nm[c]? = some y) : jx_okM jx_nm c M y := by have := jx_allM_at _ _ 0 c M y jx_allOk h1 h2; rw [Nat.zero_add] at this; exact this
