abbrev bb_La_begin : ByteArray := method_3_code
def hh_La_begin : List (Nat × Nat × Nat × Nat) := [(0, 9, 12, 13), (0, 9, 15, 15)]
theorem cww_La_begin : Cond.codeWith yy_La_begin bb_La_begin 4 (some .int) hh_La_begin ∈ nn_TS := (nn_in 296 (by decide +kernel) rfl)
abbrev bb_La_get : ByteArray := method_4_code
def hh_La_get : List (Nat × Nat × Nat × Nat) := [(0, 10, 13, 13), (0, 10, 17, 15), (0, 10, 21, 21), (0, 10, 25, 23)]
theorem cww_La_get : Cond.codeWith yy_La_get bb_La_get 5 (some .int) hh_La_get ∈ nn_TS := (nn_in 398 (by decide +kernel) rfl)
abbrev bb_La_set : ByteArray := method_5_code
def hh_La_set : List (Nat × Nat × Nat × Nat) := [(0, 7, 10, 13), (0, 7, 14, 15)]
theorem cww_La_set : Cond.codeWith yy_La_set bb_La_set 5 (some .int) hh_La_set ∈ nn_TS := (nn_in 521 (by decide +kernel) rfl)
abbrev bb_La_erase : ByteArray := method_6_code
def hh_La_erase : List (Nat × Nat × Nat × Nat) := [(0, 6, 9, 13), (0, 6, 12, 15)]
theorem cww_La_erase : Cond.codeWith yy_La_erase bb_La_erase 4 (some .int) hh_La_erase ∈ nn_TS := (nn_in 532 (by decide +kernel) rfl)
abbrev bb_La_step : ByteArray := method_7_code
def hh_La_step : List (Nat × Nat × Nat × Nat) := [(0, 9, 12, 13), (0, 9, 15, 21), (0, 9, 18, 15)]
theorem cww_La_step : Cond.codeWith yy_La_step bb_La_step 4 (some .int) hh_La_step ∈ nn_TS := (nn_in 543 (by decide +kernel) rfl)
abbrev bb_La_clear : ByteArray := method_8_code
def hh_La_clear : List (Nat × Nat × Nat × Nat) := [(0, 9, 12, 13), (0, 9, 15, 15)]
theorem cww_La_clear : Cond.codeWith yy_La_clear bb_La_clear 4 (some .int) hh_La_clear ∈ nn_TS := (nn_in 632 (by decide +kernel) rfl)
theorem lk_La_7 : Cond.methodLink "TabletCommitsLaw" 7 yy_TC_begin ∈ nn_TS := (nn_in 299 (by decide +kernel) rfl)
theorem cs_La_7 : mm_Cs "TabletCommitsLaw" 7 yy_TC_begin bb_TC_begin 3 (some .int) 1 := ⟨(nn_in 302 (by decide +kernel) rfl), (nn_in 1 (by decide +kernel) rfl), ⟨by decide, by decide, by decide +kernel⟩, Or.inl (nn_in 299 (by decide +kernel) rfl)⟩
theorem ci_La_7 : Cond.instanceMethod yy_TC_begin ∈ nn_TS ∧ Cond.selects yy_TC_begin.cls yy_TC_begin yy_TC_begin ∈ nn_TS := ⟨(nn_in 300 (by decide +kernel) rfl), (nn_in 301 (by decide +kernel) rfl)⟩
theorem lk_La_17 : Cond.methodLink "TabletCommitsLaw" 17 yy_TC_get ∈ nn_TS := (nn_in 401 (by decide +kernel) rfl)
theorem cs_La_17 : mm_Cs "TabletCommitsLaw" 17 yy_TC_get bb_TC_get 6 (some .int) 2 := ⟨(nn_in 404 (by decide +kernel) rfl), (nn_in 1 (by decide +kernel) rfl), ⟨by decide, by decide, by decide +kernel⟩, Or.inl (nn_in 401 (by decide +kernel) rfl)⟩
theorem ci_La_17 : Cond.instanceMethod yy_TC_get ∈ nn_TS ∧ Cond.selects yy_TC_get.cls yy_TC_get yy_TC_get ∈ nn_TS := ⟨(nn_in 402 (by decide +kernel) rfl), (nn_in 403 (by decide +kernel) rfl)⟩
theorem lk_La_25 : Cond.methodLink "TabletCommitsLaw" 25 yy_TC_set ∈ nn_TS := (nn_in 522 (by decide +kernel) rfl)
theorem cs_La_25 : mm_Cs "TabletCommitsLaw" 25 yy_TC_set bb_TC_set 4 none 3 := ⟨(nn_in 525 (by decide +kernel) rfl), (nn_in 1 (by decide +kernel) rfl), ⟨by decide, by decide, by decide +kernel⟩, Or.inl (nn_in 522 (by decide +kernel) rfl)⟩
theorem ci_La_25 : Cond.instanceMethod yy_TC_set ∈ nn_TS ∧ Cond.selects yy_TC_set.cls yy_TC_set yy_TC_set ∈ nn_TS := ⟨(nn_in 523 (by decide +kernel) rfl), (nn_in 524 (by decide +kernel) rfl)⟩
theorem lk_La_29 : Cond.methodLink "TabletCommitsLaw" 29 yy_TC_erase ∈ nn_TS := (nn_in 533 (by decide +kernel) rfl)
theorem cs_La_29 : mm_Cs "TabletCommitsLaw" 29 yy_TC_erase bb_TC_erase 3 none 2 := ⟨(nn_in 536 (by decide +kernel) rfl), (nn_in 1 (by decide +kernel) rfl), ⟨by decide, by decide, by decide +kernel⟩, Or.inl (nn_in 533 (by decide +kernel) rfl)⟩
theorem ci_La_29 : Cond.instanceMethod yy_TC_erase ∈ nn_TS ∧ Cond.selects yy_TC_erase.cls yy_TC_erase yy_TC_erase ∈ nn_TS := ⟨(nn_in 534 (by decide +kernel) rfl), (nn_in 535 (by decide +kernel) rfl)⟩
theorem lk_La_33 : Cond.methodLink "TabletCommitsLaw" 33 yy_TC_step ∈ nn_TS := (nn_in 544 (by decide +kernel) rfl)
theorem cs_La_33 : mm_Cs "TabletCommitsLaw" 33 yy_TC_step bb_TC_step 4 (some .int) 1 := ⟨(nn_in 547 (by decide +kernel) rfl), (nn_in 1 (by decide +kernel) rfl), ⟨by decide, by decide, by decide +kernel⟩, Or.inl (nn_in 544 (by decide +kernel) rfl)⟩
theorem ci_La_33 : Cond.instanceMethod yy_TC_step ∈ nn_TS ∧ Cond.selects yy_TC_step.cls yy_TC_step yy_TC_step ∈ nn_TS := ⟨(nn_in 545 (by decide +kernel) rfl), (nn_in 546 (by decide +kernel) rfl)⟩
theorem lk_La_36 : Cond.methodLink "TabletCommitsLaw" 36 yy_TC_clear ∈ nn_TS := (nn_in 633 (by decide +kernel) rfl)
theorem cs_La_36 : mm_Cs "TabletCommitsLaw" 36 yy_TC_clear bb_TC_clear 3 (some .int) 1 := ⟨(nn_in 636 (by decide +kernel) rfl), (nn_in 1 (by decide +kernel) rfl), ⟨by decide, by decide, by decide +kernel⟩, Or.inl (nn_in 633 (by decide +kernel) rfl)⟩
theorem ci_La_36 : Cond.instanceMethod yy_TC_clear ∈ nn_TS ∧ Cond.selects yy_TC_clear.cls yy_TC_clear yy_TC_clear ∈ nn_TS := ⟨(nn_in 634 (by decide +kernel) rfl), (nn_in 635 (by decide +kernel) rfl)⟩
theorem cl_La_8 : Cond.classLink "TabletCommitsLaw" 8 (nn_C 0) ∈ nn_TS := (nn_in 17 (by decide +kernel) rfl)
theorem lk_La_39 : Cond.methodLink "TabletCommitsLaw" 39 yy_La_cell ∈ nn_TS := (nn_in 291 (by decide +kernel) rfl)
theorem cs_La_39 : mm_Cs "TabletCommitsLaw" 39 yy_La_cell bb_La_cell 2 (some .int) 2 := ⟨(nn_in 293 (by decide +kernel) rfl), (nn_in 0 (by decide +kernel) rfl), ⟨by decide, by decide, by decide +kernel⟩, Or.inl (nn_in 291 (by decide +kernel) rfl)⟩
theorem ci_La_39 : Cond.static yy_La_cell ∈ nn_TS := (nn_in 292 (by decide +kernel) rfl)
theorem lk_La_45 : Cond.methodLink "TabletCommitsLaw" 45 yy_TC_init ∈ nn_TS := (nn_in 19 (by decide +kernel) rfl)
theorem cs_La_45 : mm_Cs "TabletCommitsLaw" 45 yy_TC_init bb_TC_init 3 none 1 := ⟨(nn_in 21 (by decide +kernel) rfl), (nn_in 1 (by decide +kernel) rfl), ⟨by decide, by decide, by decide +kernel⟩, Or.inl (nn_in 19 (by decide +kernel) rfl)⟩
theorem ci_La_45 : Cond.instanceMethod yy_TC_init ∈ nn_TS ∧ yy_TC_init.name = "<init>" := ⟨(nn_in 20 (by decide +kernel) rfl), rfl⟩
theorem cl_La_48 : Cond.classLink "TabletCommitsLaw" 48 (nn_C 7) ∈ nn_TS := (nn_in 638 (by decide +kernel) rfl)
theorem lk_La_50 : Cond.methodLink "TabletCommitsLaw" 50 yy_Mo_init ∈ nn_TS := (nn_in 640 (by decide +kernel) rfl)
theorem cs_La_50 : mm_Cs "TabletCommitsLaw" 50 yy_Mo_init bb_Mo_init 2 none 1 := ⟨(nn_in 642 (by decide +kernel) rfl), (nn_in 7 (by decide +kernel) rfl), ⟨by decide, by decide, by decide +kernel⟩, Or.inl (nn_in 640 (by decide +kernel) rfl)⟩
theorem ci_La_50 : Cond.instanceMethod yy_Mo_init ∈ nn_TS ∧ yy_Mo_init.name = "<init>" := ⟨(nn_in 641 (by decide +kernel) rfl), rfl⟩
theorem lk_La_51 : Cond.methodLink "TabletCommitsLaw" 51 yy_La_begin ∈ nn_TS := (nn_in 294 (by decide +kernel) rfl)
theorem ci_La_51 : Cond.static yy_La_begin ∈ nn_TS := (nn_in 295 (by decide +kernel) rfl)
theorem lk_La_54 : Cond.methodLink "TabletCommitsLaw" 54 yy_Mo_begin ∈ nn_TS := (nn_in 743 (by decide +kernel) rfl)
theorem cs_La_54 : mm_Cs "TabletCommitsLaw" 54 yy_Mo_begin bb_Mo_begin 3 (some .int) 1 := ⟨(nn_in 746 (by decide +kernel) rfl), (nn_in 7 (by decide +kernel) rfl), ⟨by decide, by decide, by decide +kernel⟩, Or.inl (nn_in 743 (by decide +kernel) rfl)⟩
theorem ci_La_54 : Cond.instanceMethod yy_Mo_begin ∈ nn_TS ∧ Cond.selects yy_Mo_begin.cls yy_Mo_begin yy_Mo_begin ∈ nn_TS := ⟨(nn_in 744 (by decide +kernel) rfl), (nn_in 745 (by decide +kernel) rfl)⟩
theorem lk_La_55 : Cond.methodLink "TabletCommitsLaw" 55 yy_Mo_thrown ∈ nn_TS := (nn_in 739 (by decide +kernel) rfl)
theorem cs_La_55 : mm_Cs "TabletCommitsLaw" 55 yy_Mo_thrown bb_Mo_thrown 1 (some .int) 0 := ⟨(nn_in 742 (by decide +kernel) rfl), (nn_in 7 (by decide +kernel) rfl), ⟨by decide, by decide, by decide +kernel⟩, Or.inl (nn_in 739 (by decide +kernel) rfl)⟩
theorem ci_La_55 : Cond.instanceMethod yy_Mo_thrown ∈ nn_TS ∧ Cond.selects yy_Mo_thrown.cls yy_Mo_thrown yy_Mo_thrown ∈ nn_TS := ⟨(nn_in 740 (by decide +kernel) rfl), (nn_in 741 (by decide +kernel) rfl)⟩
theorem lk_La_59 : Cond.methodLink "TabletCommitsLaw" 59 yy_La_get ∈ nn_TS := (nn_in 396 (by decide +kernel) rfl)
theorem ci_La_59 : Cond.static yy_La_get ∈ nn_TS := (nn_in 397 (by decide +kernel) rfl)
theorem lk_La_62 : Cond.methodLink "TabletCommitsLaw" 62 yy_Mo_get ∈ nn_TS := (nn_in 762 (by decide +kernel) rfl)
theorem cs_La_62 : mm_Cs "TabletCommitsLaw" 62 yy_Mo_get bb_Mo_get 5 (some .int) 2 := ⟨(nn_in 765 (by decide +kernel) rfl), (nn_in 7 (by decide +kernel) rfl), ⟨by decide, by decide, by decide +kernel⟩, Or.inl (nn_in 762 (by decide +kernel) rfl)⟩
theorem ci_La_62 : Cond.instanceMethod yy_Mo_get ∈ nn_TS ∧ Cond.selects yy_Mo_get.cls yy_Mo_get yy_Mo_get ∈ nn_TS := ⟨(nn_in 763 (by decide +kernel) rfl), (nn_in 764 (by decide +kernel) rfl)⟩
theorem lk_La_63 : Cond.methodLink "TabletCommitsLaw" 63 yy_La_set ∈ nn_TS := (nn_in 519 (by decide +kernel) rfl)
theorem ci_La_63 : Cond.static yy_La_set ∈ nn_TS := (nn_in 520 (by decide +kernel) rfl)
theorem lk_La_66 : Cond.methodLink "TabletCommitsLaw" 66 yy_Mo_set ∈ nn_TS := (nn_in 801 (by decide +kernel) rfl)
theorem cs_La_66 : mm_Cs "TabletCommitsLaw" 66 yy_Mo_set bb_Mo_set 4 none 3 := ⟨(nn_in 804 (by decide +kernel) rfl), (nn_in 7 (by decide +kernel) rfl), ⟨by decide, by decide, by decide +kernel⟩, Or.inl (nn_in 801 (by decide +kernel) rfl)⟩
theorem ci_La_66 : Cond.instanceMethod yy_Mo_set ∈ nn_TS ∧ Cond.selects yy_Mo_set.cls yy_Mo_set yy_Mo_set ∈ nn_TS := ⟨(nn_in 802 (by decide +kernel) rfl), (nn_in 803 (by decide +kernel) rfl)⟩
theorem lk_La_67 : Cond.methodLink "TabletCommitsLaw" 67 yy_La_erase ∈ nn_TS := (nn_in 530 (by decide +kernel) rfl)
theorem ci_La_67 : Cond.static yy_La_erase ∈ nn_TS := (nn_in 531 (by decide +kernel) rfl)
theorem lk_La_70 : Cond.methodLink "TabletCommitsLaw" 70 yy_Mo_erase ∈ nn_TS := (nn_in 809 (by decide +kernel) rfl)
theorem cs_La_70 : mm_Cs "TabletCommitsLaw" 70 yy_Mo_erase bb_Mo_erase 3 none 2 := ⟨(nn_in 812 (by decide +kernel) rfl), (nn_in 7 (by decide +kernel) rfl), ⟨by decide, by decide, by decide +kernel⟩, Or.inl (nn_in 809 (by decide +kernel) rfl)⟩
theorem ci_La_70 : Cond.instanceMethod yy_Mo_erase ∈ nn_TS ∧ Cond.selects yy_Mo_erase.cls yy_Mo_erase yy_Mo_erase ∈ nn_TS := ⟨(nn_in 810 (by decide +kernel) rfl), (nn_in 811 (by decide +kernel) rfl)⟩
theorem lk_La_71 : Cond.methodLink "TabletCommitsLaw" 71 yy_La_step ∈ nn_TS := (nn_in 541 (by decide +kernel) rfl)
theorem ci_La_71 : Cond.static yy_La_step ∈ nn_TS := (nn_in 542 (by decide +kernel) rfl)
theorem lk_La_73 : Cond.methodLink "TabletCommitsLaw" 73 yy_Mo_step ∈ nn_TS := (nn_in 813 (by decide +kernel) rfl)
theorem cs_La_73 : mm_Cs "TabletCommitsLaw" 73 yy_Mo_step bb_Mo_step 3 (some .int) 1 := ⟨(nn_in 816 (by decide +kernel) rfl), (nn_in 7 (by decide +kernel) rfl), ⟨by decide, by decide, by decide +kernel⟩, Or.inl (nn_in 813 (by decide +kernel) rfl)⟩
theorem ci_La_73 : Cond.instanceMethod yy_Mo_step ∈ nn_TS ∧ Cond.selects yy_Mo_step.cls yy_Mo_step yy_Mo_step ∈ nn_TS := ⟨(nn_in 814 (by decide +kernel) rfl), (nn_in 815 (by decide +kernel) rfl)⟩
theorem lk_La_74 : Cond.methodLink "TabletCommitsLaw" 74 yy_TC_kill ∈ nn_TS := (nn_in 166 (by decide +kernel) rfl)
theorem cs_La_74 : mm_Cs "TabletCommitsLaw" 74 yy_TC_kill bb_TC_kill 2 (some .boolean) 1 := ⟨(nn_in 169 (by decide +kernel) rfl), (nn_in 1 (by decide +kernel) rfl), ⟨by decide, by decide, by decide +kernel⟩, Or.inl (nn_in 166 (by decide +kernel) rfl)⟩
theorem ci_La_74 : Cond.instanceMethod yy_TC_kill ∈ nn_TS ∧ Cond.selects yy_TC_kill.cls yy_TC_kill yy_TC_kill ∈ nn_TS := ⟨(nn_in 167 (by decide +kernel) rfl), (nn_in 168 (by decide +kernel) rfl)⟩
theorem lk_La_78 : Cond.methodLink "TabletCommitsLaw" 78 yy_Mo_kill ∈ nn_TS := (nn_in 849 (by decide +kernel) rfl)
theorem cs_La_78 : mm_Cs "TabletCommitsLaw" 78 yy_Mo_kill bb_Mo_kill 2 (some .boolean) 1 := ⟨(nn_in 852 (by decide +kernel) rfl), (nn_in 7 (by decide +kernel) rfl), ⟨by decide, by decide, by decide +kernel⟩, Or.inl (nn_in 849 (by decide +kernel) rfl)⟩
theorem ci_La_78 : Cond.instanceMethod yy_Mo_kill ∈ nn_TS ∧ Cond.selects yy_Mo_kill.cls yy_Mo_kill yy_Mo_kill ∈ nn_TS := ⟨(nn_in 850 (by decide +kernel) rfl), (nn_in 851 (by decide +kernel) rfl)⟩
theorem lk_La_79 : Cond.methodLink "TabletCommitsLaw" 79 yy_La_clear ∈ nn_TS := (nn_in 630 (by decide +kernel) rfl)
theorem ci_La_79 : Cond.static yy_La_clear ∈ nn_TS := (nn_in 631 (by decide +kernel) rfl)
theorem lk_La_81 : Cond.methodLink "TabletCommitsLaw" 81 yy_Mo_clear ∈ nn_TS := (nn_in 853 (by decide +kernel) rfl)
theorem cs_La_81 : mm_Cs "TabletCommitsLaw" 81 yy_Mo_clear bb_Mo_clear 3 (some .int) 1 := ⟨(nn_in 856 (by decide +kernel) rfl), (nn_in 7 (by decide +kernel) rfl), ⟨by decide, by decide, by decide +kernel⟩, Or.inl (nn_in 853 (by decide +kernel) rfl)⟩
theorem ci_La_81 : Cond.instanceMethod yy_Mo_clear ∈ nn_TS ∧ Cond.selects yy_Mo_clear.cls yy_Mo_clear yy_Mo_clear ∈ nn_TS := ⟨(nn_in 854 (by decide +kernel) rfl), (nn_in 855 (by decide +kernel) rfl)⟩
theorem lk_La_82 : Cond.methodLink "TabletCommitsLaw" 82 yy_TC_tick ∈ nn_TS := (nn_in 177 (by decide +kernel) rfl)
theorem cs_La_82 : mm_Cs "TabletCommitsLaw" 82 yy_TC_tick bb_TC_tick 2 (some .int) 1 := ⟨(nn_in 180 (by decide +kernel) rfl), (nn_in 1 (by decide +kernel) rfl), ⟨by decide, by decide, by decide +kernel⟩, Or.inl (nn_in 177 (by decide +kernel) rfl)⟩
theorem ci_La_82 : Cond.instanceMethod yy_TC_tick ∈ nn_TS ∧ Cond.selects yy_TC_tick.cls yy_TC_tick yy_TC_tick ∈ nn_TS := ⟨(nn_in 178 (by decide +kernel) rfl), (nn_in 179 (by decide +kernel) rfl)⟩
theorem lk_La_85 : Cond.methodLink "TabletCommitsLaw" 85 yy_Mo_tick ∈ nn_TS := (nn_in 857 (by decide +kernel) rfl)
theorem cs_La_85 : mm_Cs "TabletCommitsLaw" 85 yy_Mo_tick bb_Mo_tick 2 (some .int) 1 := ⟨(nn_in 860 (by decide +kernel) rfl), (nn_in 7 (by decide +kernel) rfl), ⟨by decide, by decide, by decide +kernel⟩, Or.inl (nn_in 857 (by decide +kernel) rfl)⟩
theorem ci_La_85 : Cond.instanceMethod yy_Mo_tick ∈ nn_TS ∧ Cond.selects yy_Mo_tick.cls yy_Mo_tick yy_Mo_tick ∈ nn_TS := ⟨(nn_in 858 (by decide +kernel) rfl), (nn_in 859 (by decide +kernel) rfl)⟩
theorem lk_La_86 : Cond.methodLink "TabletCommitsLaw" 86 yy_TC_crash ∈ nn_TS := (nn_in 181 (by decide +kernel) rfl)
theorem cs_La_86 : mm_Cs "TabletCommitsLaw" 86 yy_TC_crash bb_TC_crash 2 (some .boolean) 1 := ⟨(nn_in 184 (by decide +kernel) rfl), (nn_in 1 (by decide +kernel) rfl), ⟨by decide, by decide, by decide +kernel⟩, Or.inl (nn_in 181 (by decide +kernel) rfl)⟩
theorem ci_La_86 : Cond.instanceMethod yy_TC_crash ∈ nn_TS ∧ Cond.selects yy_TC_crash.cls yy_TC_crash yy_TC_crash ∈ nn_TS := ⟨(nn_in 182 (by decide +kernel) rfl), (nn_in 183 (by decide +kernel) rfl)⟩
theorem lk_La_89 : Cond.methodLink "TabletCommitsLaw" 89 yy_Mo_crash ∈ nn_TS := (nn_in 861 (by decide +kernel) rfl)
theorem cs_La_89 : mm_Cs "TabletCommitsLaw" 89 yy_Mo_crash bb_Mo_crash 2 (some .boolean) 1 := ⟨(nn_in 864 (by decide +kernel) rfl), (nn_in 7 (by decide +kernel) rfl), ⟨by decide, by decide, by decide +kernel⟩, Or.inl (nn_in 861 (by decide +kernel) rfl)⟩
theorem ci_La_89 : Cond.instanceMethod yy_Mo_crash ∈ nn_TS ∧ Cond.selects yy_Mo_crash.cls yy_Mo_crash yy_Mo_crash ∈ nn_TS := ⟨(nn_in 862 (by decide +kernel) rfl), (nn_in 863 (by decide +kernel) rfl)⟩
theorem lk_La_90 : Cond.methodLink "TabletCommitsLaw" 90 yy_TC_recover ∈ nn_TS := (nn_in 188 (by decide +kernel) rfl)
theorem cs_La_90 : mm_Cs "TabletCommitsLaw" 90 yy_TC_recover bb_TC_recover 2 (some .boolean) 1 := ⟨(nn_in 191 (by decide +kernel) rfl), (nn_in 1 (by decide +kernel) rfl), ⟨by decide, by decide, by decide +kernel⟩, Or.inl (nn_in 188 (by decide +kernel) rfl)⟩
theorem ci_La_90 : Cond.instanceMethod yy_TC_recover ∈ nn_TS ∧ Cond.selects yy_TC_recover.cls yy_TC_recover yy_TC_recover ∈ nn_TS := ⟨(nn_in 189 (by decide +kernel) rfl), (nn_in 190 (by decide +kernel) rfl)⟩
theorem lk_La_93 : Cond.methodLink "TabletCommitsLaw" 93 yy_Mo_recover ∈ nn_TS := (nn_in 865 (by decide +kernel) rfl)
theorem cs_La_93 : mm_Cs "TabletCommitsLaw" 93 yy_Mo_recover bb_Mo_recover 2 (some .boolean) 1 := ⟨(nn_in 868 (by decide +kernel) rfl), (nn_in 7 (by decide +kernel) rfl), ⟨by decide, by decide, by decide +kernel⟩, Or.inl (nn_in 865 (by decide +kernel) rfl)⟩
theorem ci_La_93 : Cond.instanceMethod yy_Mo_recover ∈ nn_TS ∧ Cond.selects yy_Mo_recover.cls yy_Mo_recover yy_Mo_recover ∈ nn_TS := ⟨(nn_in 866 (by decide +kernel) rfl), (nn_in 867 (by decide +kernel) rfl)⟩
theorem lk_La_94 : Cond.methodLink "TabletCommitsLaw" 94 yy_TC_fail ∈ nn_TS := (nn_in 196 (by decide +kernel) rfl)
theorem cs_La_94 : mm_Cs "TabletCommitsLaw" 94 yy_TC_fail bb_TC_fail 4 (some .boolean) 3 := ⟨(nn_in 199 (by decide +kernel) rfl), (nn_in 1 (by decide +kernel) rfl), ⟨by decide, by decide, by decide +kernel⟩, Or.inl (nn_in 196 (by decide +kernel) rfl)⟩
theorem ci_La_94 : Cond.instanceMethod yy_TC_fail ∈ nn_TS ∧ Cond.selects yy_TC_fail.cls yy_TC_fail yy_TC_fail ∈ nn_TS := ⟨(nn_in 197 (by decide +kernel) rfl), (nn_in 198 (by decide +kernel) rfl)⟩
theorem lk_La_98 : Cond.methodLink "TabletCommitsLaw" 98 yy_Mo_fail ∈ nn_TS := (nn_in 869 (by decide +kernel) rfl)
theorem cs_La_98 : mm_Cs "TabletCommitsLaw" 98 yy_Mo_fail bb_Mo_fail 4 (some .boolean) 3 := ⟨(nn_in 872 (by decide +kernel) rfl), (nn_in 7 (by decide +kernel) rfl), ⟨by decide, by decide, by decide +kernel⟩, Or.inl (nn_in 869 (by decide +kernel) rfl)⟩
theorem ci_La_98 : Cond.instanceMethod yy_Mo_fail ∈ nn_TS ∧ Cond.selects yy_Mo_fail.cls yy_Mo_fail yy_Mo_fail ∈ nn_TS := ⟨(nn_in 870 (by decide +kernel) rfl), (nn_in 871 (by decide +kernel) rfl)⟩
theorem lk_La_99 : Cond.methodLink "TabletCommitsLaw" 99 yy_TC_failOracle ∈ nn_TS := (nn_in 204 (by decide +kernel) rfl)
theorem cs_La_99 : mm_Cs "TabletCommitsLaw" 99 yy_TC_failOracle bb_TC_failOracle 1 (some .int) 0 := ⟨(nn_in 207 (by decide +kernel) rfl), (nn_in 1 (by decide +kernel) rfl), ⟨by decide, by decide, by decide +kernel⟩, Or.inl (nn_in 204 (by decide +kernel) rfl)⟩
theorem ci_La_99 : Cond.instanceMethod yy_TC_failOracle ∈ nn_TS ∧ Cond.selects yy_TC_failOracle.cls yy_TC_failOracle yy_TC_failOracle ∈ nn_TS := ⟨(nn_in 205 (by decide +kernel) rfl), (nn_in 206 (by decide +kernel) rfl)⟩
theorem lk_La_102 : Cond.methodLink "TabletCommitsLaw" 102 yy_Mo_failOracle ∈ nn_TS := (nn_in 873 (by decide +kernel) rfl)
theorem cs_La_102 : mm_Cs "TabletCommitsLaw" 102 yy_Mo_failOracle bb_Mo_failOracle 1 (some .int) 0 := ⟨(nn_in 876 (by decide +kernel) rfl), (nn_in 7 (by decide +kernel) rfl), ⟨by decide, by decide, by decide +kernel⟩, Or.inl (nn_in 873 (by decide +kernel) rfl)⟩
theorem ci_La_102 : Cond.instanceMethod yy_Mo_failOracle ∈ nn_TS ∧ Cond.selects yy_Mo_failOracle.cls yy_Mo_failOracle yy_Mo_failOracle ∈ nn_TS := ⟨(nn_in 874 (by decide +kernel) rfl), (nn_in 875 (by decide +kernel) rfl)⟩
theorem lk_La_103 : Cond.methodLink "TabletCommitsLaw" 103 yy_TC_sweep ∈ nn_TS := (nn_in 212 (by decide +kernel) rfl)
theorem cs_La_103 : mm_Cs "TabletCommitsLaw" 103 yy_TC_sweep bb_TC_sweep 4 (some .int) 1 := ⟨(nn_in 215 (by decide +kernel) rfl), (nn_in 1 (by decide +kernel) rfl), ⟨by decide, by decide, by decide +kernel⟩, Or.inl (nn_in 212 (by decide +kernel) rfl)⟩
theorem ci_La_103 : Cond.instanceMethod yy_TC_sweep ∈ nn_TS ∧ Cond.selects yy_TC_sweep.cls yy_TC_sweep yy_TC_sweep ∈ nn_TS := ⟨(nn_in 213 (by decide +kernel) rfl), (nn_in 214 (by decide +kernel) rfl)⟩
theorem lk_La_106 : Cond.methodLink "TabletCommitsLaw" 106 yy_Mo_sweep ∈ nn_TS := (nn_in 877 (by decide +kernel) rfl)
theorem cs_La_106 : mm_Cs "TabletCommitsLaw" 106 yy_Mo_sweep bb_Mo_sweep 7 (some .int) 1 := ⟨(nn_in 880 (by decide +kernel) rfl), (nn_in 7 (by decide +kernel) rfl), ⟨by decide, by decide, by decide +kernel⟩, Or.inl (nn_in 877 (by decide +kernel) rfl)⟩
theorem ci_La_106 : Cond.instanceMethod yy_Mo_sweep ∈ nn_TS ∧ Cond.selects yy_Mo_sweep.cls yy_Mo_sweep yy_Mo_sweep ∈ nn_TS := ⟨(nn_in 878 (by decide +kernel) rfl), (nn_in 879 (by decide +kernel) rfl)⟩
theorem lk_La_107 : Cond.methodLink "TabletCommitsLaw" 107 yy_TC_transaction ∈ nn_TS := (nn_in 240 (by decide +kernel) rfl)
theorem cs_La_107 : mm_Cs "TabletCommitsLaw" 107 yy_TC_transaction bb_TC_transaction 3 (some .int) 2 := ⟨(nn_in 243 (by decide +kernel) rfl), (nn_in 1 (by decide +kernel) rfl), ⟨by decide, by decide, by decide +kernel⟩, Or.inl (nn_in 240 (by decide +kernel) rfl)⟩
theorem ci_La_107 : Cond.instanceMethod yy_TC_transaction ∈ nn_TS ∧ Cond.selects yy_TC_transaction.cls yy_TC_transaction yy_TC_transaction ∈ nn_TS := ⟨(nn_in 241 (by decide +kernel) rfl), (nn_in 242 (by decide +kernel) rfl)⟩
theorem lk_La_110 : Cond.methodLink "TabletCommitsLaw" 110 yy_Mo_transaction ∈ nn_TS := (nn_in 885 (by decide +kernel) rfl)
theorem cs_La_110 : mm_Cs "TabletCommitsLaw" 110 yy_Mo_transaction bb_Mo_transaction 6 (some .int) 2 := ⟨(nn_in 888 (by decide +kernel) rfl), (nn_in 7 (by decide +kernel) rfl), ⟨by decide, by decide, by decide +kernel⟩, Or.inl (nn_in 885 (by decide +kernel) rfl)⟩
theorem ci_La_110 : Cond.instanceMethod yy_Mo_transaction ∈ nn_TS ∧ Cond.selects yy_Mo_transaction.cls yy_Mo_transaction yy_Mo_transaction ∈ nn_TS := ⟨(nn_in 886 (by decide +kernel) rfl), (nn_in 887 (by decide +kernel) rfl)⟩
theorem lk_La_111 : Cond.methodLink "TabletCommitsLaw" 111 yy_TC_lock ∈ nn_TS := (nn_in 251 (by decide +kernel) rfl)
theorem cs_La_111 : mm_Cs "TabletCommitsLaw" 111 yy_TC_lock bb_TC_lock 4 (some .int) 2 := ⟨(nn_in 254 (by decide +kernel) rfl), (nn_in 1 (by decide +kernel) rfl), ⟨by decide, by decide, by decide +kernel⟩, Or.inl (nn_in 251 (by decide +kernel) rfl)⟩
theorem ci_La_111 : Cond.instanceMethod yy_TC_lock ∈ nn_TS ∧ Cond.selects yy_TC_lock.cls yy_TC_lock yy_TC_lock ∈ nn_TS := ⟨(nn_in 252 (by decide +kernel) rfl), (nn_in 253 (by decide +kernel) rfl)⟩
theorem lk_La_114 : Cond.methodLink "TabletCommitsLaw" 114 yy_Mo_lock ∈ nn_TS := (nn_in 889 (by decide +kernel) rfl)
theorem cs_La_114 : mm_Cs "TabletCommitsLaw" 114 yy_Mo_lock bb_Mo_lock 4 (some .int) 2 := ⟨(nn_in 892 (by decide +kernel) rfl), (nn_in 7 (by decide +kernel) rfl), ⟨by decide, by decide, by decide +kernel⟩, Or.inl (nn_in 889 (by decide +kernel) rfl)⟩
theorem ci_La_114 : Cond.instanceMethod yy_Mo_lock ∈ nn_TS ∧ Cond.selects yy_Mo_lock.cls yy_Mo_lock yy_Mo_lock ∈ nn_TS := ⟨(nn_in 890 (by decide +kernel) rfl), (nn_in 891 (by decide +kernel) rfl)⟩
theorem lk_La_115 : Cond.methodLink "TabletCommitsLaw" 115 yy_TC_record ∈ nn_TS := (nn_in 267 (by decide +kernel) rfl)
theorem cs_La_115 : mm_Cs "TabletCommitsLaw" 115 yy_TC_record bb_TC_record 5 (some .int) 3 := ⟨(nn_in 270 (by decide +kernel) rfl), (nn_in 1 (by decide +kernel) rfl), ⟨by decide, by decide, by decide +kernel⟩, Or.inl (nn_in 267 (by decide +kernel) rfl)⟩
theorem ci_La_115 : Cond.instanceMethod yy_TC_record ∈ nn_TS ∧ Cond.selects yy_TC_record.cls yy_TC_record yy_TC_record ∈ nn_TS := ⟨(nn_in 268 (by decide +kernel) rfl), (nn_in 269 (by decide +kernel) rfl)⟩
theorem lk_La_119 : Cond.methodLink "TabletCommitsLaw" 119 yy_Mo_record ∈ nn_TS := (nn_in 893 (by decide +kernel) rfl)
theorem cs_La_119 : mm_Cs "TabletCommitsLaw" 119 yy_Mo_record bb_Mo_record 9 (some .int) 3 := ⟨(nn_in 896 (by decide +kernel) rfl), (nn_in 7 (by decide +kernel) rfl), ⟨by decide, by decide, by decide +kernel⟩, Or.inl (nn_in 893 (by decide +kernel) rfl)⟩
theorem ci_La_119 : Cond.instanceMethod yy_Mo_record ∈ nn_TS ∧ Cond.selects yy_Mo_record.cls yy_Mo_record yy_Mo_record ∈ nn_TS := ⟨(nn_in 894 (by decide +kernel) rfl), (nn_in 895 (by decide +kernel) rfl)⟩
theorem lk_La_120 : Cond.methodLink "TabletCommitsLaw" 120 yy_TC_tablet ∈ nn_TS := (nn_in 279 (by decide +kernel) rfl)
theorem cs_La_120 : mm_Cs "TabletCommitsLaw" 120 yy_TC_tablet bb_TC_tablet 3 (some .int) 2 := ⟨(nn_in 282 (by decide +kernel) rfl), (nn_in 1 (by decide +kernel) rfl), ⟨by decide, by decide, by decide +kernel⟩, Or.inl (nn_in 279 (by decide +kernel) rfl)⟩
theorem ci_La_120 : Cond.instanceMethod yy_TC_tablet ∈ nn_TS ∧ Cond.selects yy_TC_tablet.cls yy_TC_tablet yy_TC_tablet ∈ nn_TS := ⟨(nn_in 280 (by decide +kernel) rfl), (nn_in 281 (by decide +kernel) rfl)⟩
theorem lk_La_123 : Cond.methodLink "TabletCommitsLaw" 123 yy_Mo_tablet ∈ nn_TS := (nn_in 898 (by decide +kernel) rfl)
theorem cs_La_123 : mm_Cs "TabletCommitsLaw" 123 yy_Mo_tablet bb_Mo_tablet 3 (some .int) 2 := ⟨(nn_in 901 (by decide +kernel) rfl), (nn_in 7 (by decide +kernel) rfl), ⟨by decide, by decide, by decide +kernel⟩, Or.inl (nn_in 898 (by decide +kernel) rfl)⟩
theorem ci_La_123 : Cond.instanceMethod yy_Mo_tablet ∈ nn_TS ∧ Cond.selects yy_Mo_tablet.cls yy_Mo_tablet yy_Mo_tablet ∈ nn_TS := ⟨(nn_in 899 (by decide +kernel) rfl), (nn_in 900 (by decide +kernel) rfl)⟩
theorem lk_La_124 : Cond.methodLink "TabletCommitsLaw" 124 yy_TC_oracle ∈ nn_TS := (nn_in 287 (by decide +kernel) rfl)
theorem cs_La_124 : mm_Cs "TabletCommitsLaw" 124 yy_TC_oracle bb_TC_oracle 2 (some .int) 1 := ⟨(nn_in 290 (by decide +kernel) rfl), (nn_in 1 (by decide +kernel) rfl), ⟨by decide, by decide, by decide +kernel⟩, Or.inl (nn_in 287 (by decide +kernel) rfl)⟩
theorem ci_La_124 : Cond.instanceMethod yy_TC_oracle ∈ nn_TS ∧ Cond.selects yy_TC_oracle.cls yy_TC_oracle yy_TC_oracle ∈ nn_TS := ⟨(nn_in 288 (by decide +kernel) rfl), (nn_in 289 (by decide +kernel) rfl)⟩
theorem lk_La_127 : Cond.methodLink "TabletCommitsLaw" 127 yy_Mo_oracle ∈ nn_TS := (nn_in 902 (by decide +kernel) rfl)
theorem cs_La_127 : mm_Cs "TabletCommitsLaw" 127 yy_Mo_oracle bb_Mo_oracle 2 (some .int) 1 := ⟨(nn_in 905 (by decide +kernel) rfl), (nn_in 7 (by decide +kernel) rfl), ⟨by decide, by decide, by decide +kernel⟩, Or.inl (nn_in 902 (by decide +kernel) rfl)⟩
theorem ci_La_127 : Cond.instanceMethod yy_Mo_oracle ∈ nn_TS ∧ Cond.selects yy_Mo_oracle.cls yy_Mo_oracle yy_Mo_oracle ∈ nn_TS := ⟨(nn_in 903 (by decide +kernel) rfl), (nn_in 904 (by decide +kernel) rfl)⟩
theorem cl_La_13 : Cond.classLink "TabletCommitsLaw" 13 (nn_X 0) ∈ nn_TS := (nn_in 297 (by decide +kernel) rfl)
theorem cl_La_15 : Cond.classLink "TabletCommitsLaw" 15 (nn_X 1) ∈ nn_TS := (nn_in 298 (by decide +kernel) rfl)
theorem cl_La_21 : Cond.classLink "TabletCommitsLaw" 21 (nn_X 2) ∈ nn_TS := (nn_in 399 (by decide +kernel) rfl)
theorem cl_La_23 : Cond.classLink "TabletCommitsLaw" 23 (nn_X 3) ∈ nn_TS := (nn_in 400 (by decide +kernel) rfl)
theorem ck_La : Cond.initialized "TabletCommitsLaw" ∈ nn_TS := (nn_in 0 (by decide +kernel) rfl)
theorem dd_La_cell_0 : decode bb_La_cell 0 = .ok (.iload_n 1, 1) := by decide +kernel
theorem dd_La_cell_1 : decode bb_La_cell 1 = .ok (.aload_n 0, 1) := by decide +kernel
theorem dd_La_cell_2 : decode bb_La_cell 2 = .ok (.arraylength, 1) := by decide +kernel
theorem dd_La_cell_3 : decode bb_La_cell 3 = .ok (.if_icmp .ge 9, 3) := by decide +kernel
theorem dd_La_cell_6 : decode bb_La_cell 6 = .ok (.aload_n 0, 1) := by decide +kernel
theorem dd_La_cell_7 : decode bb_La_cell 7 = .ok (.iload_n 1, 1) := by decide +kernel
theorem dd_La_cell_8 : decode bb_La_cell 8 = .ok (.iaload, 1) := by decide +kernel
theorem dd_La_cell_9 : decode bb_La_cell 9 = .ok (.goto 4, 3) := by decide +kernel
theorem dd_La_cell_12 : decode bb_La_cell 12 = .ok (.iconst 0, 1) := by decide +kernel
theorem dd_La_cell_13 : decode bb_La_cell 13 = .ok (.ireturn, 1) := by decide +kernel
theorem dd_La_begin_0 : decode bb_La_begin 0 = .ok (.aload_n 2, 1) := by decide +kernel
theorem dd_La_begin_1 : decode bb_La_begin 1 = .ok (.iconst 0, 1) := by decide +kernel
theorem dd_La_begin_2 : decode bb_La_begin 2 = .ok (.aload_n 0, 1) := by decide +kernel
theorem dd_La_begin_3 : decode bb_La_begin 3 = .ok (.iload_n 1, 1) := by decide +kernel
theorem dd_La_begin_4 : decode bb_La_begin 4 = .ok (.invokevirtual 7, 3) := by decide +kernel
theorem dd_La_begin_7 : decode bb_La_begin 7 = .ok (.i2l, 1) := by decide +kernel
theorem dd_La_begin_8 : decode bb_La_begin 8 = .ok (.lastore, 1) := by decide +kernel
theorem dd_La_begin_9 : decode bb_La_begin 9 = .ok (.goto 9, 3) := by decide +kernel
theorem dd_La_begin_12 : decode bb_La_begin 12 = .ok (.astore_n 3, 1) := by decide +kernel
theorem dd_La_begin_13 : decode bb_La_begin 13 = .ok (.iconst 1, 1) := by decide +kernel
theorem dd_La_begin_14 : decode bb_La_begin 14 = .ok (.ireturn, 1) := by decide +kernel
theorem dd_La_begin_15 : decode bb_La_begin 15 = .ok (.astore_n 3, 1) := by decide +kernel
theorem dd_La_begin_16 : decode bb_La_begin 16 = .ok (.iconst 2, 1) := by decide +kernel
theorem dd_La_begin_17 : decode bb_La_begin 17 = .ok (.ireturn, 1) := by decide +kernel
theorem dd_La_begin_18 : decode bb_La_begin 18 = .ok (.iconst 0, 1) := by decide +kernel
theorem dd_La_begin_19 : decode bb_La_begin 19 = .ok (.ireturn, 1) := by decide +kernel
theorem dd_La_get_0 : decode bb_La_get 0 = .ok (.aload_n 3, 1) := by decide +kernel
theorem dd_La_get_1 : decode bb_La_get 1 = .ok (.iconst 0, 1) := by decide +kernel
theorem dd_La_get_2 : decode bb_La_get 2 = .ok (.aload_n 0, 1) := by decide +kernel
theorem dd_La_get_3 : decode bb_La_get 3 = .ok (.iload_n 1, 1) := by decide +kernel
theorem dd_La_get_4 : decode bb_La_get 4 = .ok (.iload_n 2, 1) := by decide +kernel
theorem dd_La_get_5 : decode bb_La_get 5 = .ok (.invokevirtual 17, 3) := by decide +kernel
theorem dd_La_get_8 : decode bb_La_get 8 = .ok (.i2l, 1) := by decide +kernel
theorem dd_La_get_9 : decode bb_La_get 9 = .ok (.lastore, 1) := by decide +kernel
theorem dd_La_get_10 : decode bb_La_get 10 = .ok (.goto 19, 3) := by decide +kernel
theorem dd_La_get_13 : decode bb_La_get 13 = .ok (.astore 4, 2) := by decide +kernel
theorem dd_La_get_15 : decode bb_La_get 15 = .ok (.iconst 1, 1) := by decide +kernel
theorem dd_La_get_16 : decode bb_La_get 16 = .ok (.ireturn, 1) := by decide +kernel
theorem dd_La_get_17 : decode bb_La_get 17 = .ok (.astore 4, 2) := by decide +kernel
theorem dd_La_get_19 : decode bb_La_get 19 = .ok (.iconst 2, 1) := by decide +kernel
theorem dd_La_get_20 : decode bb_La_get 20 = .ok (.ireturn, 1) := by decide +kernel
theorem dd_La_get_21 : decode bb_La_get 21 = .ok (.astore 4, 2) := by decide +kernel
theorem dd_La_get_23 : decode bb_La_get 23 = .ok (.iconst 3, 1) := by decide +kernel
theorem dd_La_get_24 : decode bb_La_get 24 = .ok (.ireturn, 1) := by decide +kernel
theorem dd_La_get_25 : decode bb_La_get 25 = .ok (.astore 4, 2) := by decide +kernel
theorem dd_La_get_27 : decode bb_La_get 27 = .ok (.iconst 4, 1) := by decide +kernel
theorem dd_La_get_28 : decode bb_La_get 28 = .ok (.ireturn, 1) := by decide +kernel
theorem dd_La_get_29 : decode bb_La_get 29 = .ok (.iconst 0, 1) := by decide +kernel
theorem dd_La_get_30 : decode bb_La_get 30 = .ok (.ireturn, 1) := by decide +kernel
theorem dd_La_set_0 : decode bb_La_set 0 = .ok (.aload_n 0, 1) := by decide +kernel
theorem dd_La_set_1 : decode bb_La_set 1 = .ok (.iload_n 1, 1) := by decide +kernel
theorem dd_La_set_2 : decode bb_La_set 2 = .ok (.iload_n 2, 1) := by decide +kernel
theorem dd_La_set_3 : decode bb_La_set 3 = .ok (.iload_n 3, 1) := by decide +kernel
theorem dd_La_set_4 : decode bb_La_set 4 = .ok (.invokevirtual 25, 3) := by decide +kernel
theorem dd_La_set_7 : decode bb_La_set 7 = .ok (.goto 11, 3) := by decide +kernel
theorem dd_La_set_10 : decode bb_La_set 10 = .ok (.astore 4, 2) := by decide +kernel
theorem dd_La_set_12 : decode bb_La_set 12 = .ok (.iconst 1, 1) := by decide +kernel
theorem dd_La_set_13 : decode bb_La_set 13 = .ok (.ireturn, 1) := by decide +kernel
theorem dd_La_set_14 : decode bb_La_set 14 = .ok (.astore 4, 2) := by decide +kernel
theorem dd_La_set_16 : decode bb_La_set 16 = .ok (.iconst 2, 1) := by decide +kernel
theorem dd_La_set_17 : decode bb_La_set 17 = .ok (.ireturn, 1) := by decide +kernel
theorem dd_La_set_18 : decode bb_La_set 18 = .ok (.iconst 0, 1) := by decide +kernel
theorem dd_La_set_19 : decode bb_La_set 19 = .ok (.ireturn, 1) := by decide +kernel
theorem dd_La_erase_0 : decode bb_La_erase 0 = .ok (.aload_n 0, 1) := by decide +kernel
theorem dd_La_erase_1 : decode bb_La_erase 1 = .ok (.iload_n 1, 1) := by decide +kernel
theorem dd_La_erase_2 : decode bb_La_erase 2 = .ok (.iload_n 2, 1) := by decide +kernel
theorem dd_La_erase_3 : decode bb_La_erase 3 = .ok (.invokevirtual 29, 3) := by decide +kernel
theorem dd_La_erase_6 : decode bb_La_erase 6 = .ok (.goto 9, 3) := by decide +kernel
theorem dd_La_erase_9 : decode bb_La_erase 9 = .ok (.astore_n 3, 1) := by decide +kernel
theorem dd_La_erase_10 : decode bb_La_erase 10 = .ok (.iconst 1, 1) := by decide +kernel
theorem dd_La_erase_11 : decode bb_La_erase 11 = .ok (.ireturn, 1) := by decide +kernel
theorem dd_La_erase_12 : decode bb_La_erase 12 = .ok (.astore_n 3, 1) := by decide +kernel
theorem dd_La_erase_13 : decode bb_La_erase 13 = .ok (.iconst 2, 1) := by decide +kernel
theorem dd_La_erase_14 : decode bb_La_erase 14 = .ok (.ireturn, 1) := by decide +kernel
theorem dd_La_erase_15 : decode bb_La_erase 15 = .ok (.iconst 0, 1) := by decide +kernel
theorem dd_La_erase_16 : decode bb_La_erase 16 = .ok (.ireturn, 1) := by decide +kernel
theorem dd_La_step_0 : decode bb_La_step 0 = .ok (.aload_n 2, 1) := by decide +kernel
theorem dd_La_step_1 : decode bb_La_step 1 = .ok (.iconst 0, 1) := by decide +kernel
theorem dd_La_step_2 : decode bb_La_step 2 = .ok (.aload_n 0, 1) := by decide +kernel
theorem dd_La_step_3 : decode bb_La_step 3 = .ok (.iload_n 1, 1) := by decide +kernel
theorem dd_La_step_4 : decode bb_La_step 4 = .ok (.invokevirtual 33, 3) := by decide +kernel
theorem dd_La_step_7 : decode bb_La_step 7 = .ok (.i2l, 1) := by decide +kernel
theorem dd_La_step_8 : decode bb_La_step 8 = .ok (.lastore, 1) := by decide +kernel
theorem dd_La_step_9 : decode bb_La_step 9 = .ok (.goto 12, 3) := by decide +kernel
theorem dd_La_step_12 : decode bb_La_step 12 = .ok (.astore_n 3, 1) := by decide +kernel
theorem dd_La_step_13 : decode bb_La_step 13 = .ok (.iconst 1, 1) := by decide +kernel
theorem dd_La_step_14 : decode bb_La_step 14 = .ok (.ireturn, 1) := by decide +kernel
theorem dd_La_step_15 : decode bb_La_step 15 = .ok (.astore_n 3, 1) := by decide +kernel
theorem dd_La_step_16 : decode bb_La_step 16 = .ok (.iconst 2, 1) := by decide +kernel
theorem dd_La_step_17 : decode bb_La_step 17 = .ok (.ireturn, 1) := by decide +kernel
theorem dd_La_step_18 : decode bb_La_step 18 = .ok (.astore_n 3, 1) := by decide +kernel
theorem dd_La_step_19 : decode bb_La_step 19 = .ok (.iconst 3, 1) := by decide +kernel
theorem dd_La_step_20 : decode bb_La_step 20 = .ok (.ireturn, 1) := by decide +kernel
theorem dd_La_step_21 : decode bb_La_step 21 = .ok (.iconst 0, 1) := by decide +kernel
theorem dd_La_step_22 : decode bb_La_step 22 = .ok (.ireturn, 1) := by decide +kernel
theorem dd_La_clear_0 : decode bb_La_clear 0 = .ok (.aload_n 2, 1) := by decide +kernel
theorem dd_La_clear_1 : decode bb_La_clear 1 = .ok (.iconst 0, 1) := by decide +kernel
theorem dd_La_clear_2 : decode bb_La_clear 2 = .ok (.aload_n 0, 1) := by decide +kernel
theorem dd_La_clear_3 : decode bb_La_clear 3 = .ok (.iload_n 1, 1) := by decide +kernel
theorem dd_La_clear_4 : decode bb_La_clear 4 = .ok (.invokevirtual 36, 3) := by decide +kernel
theorem dd_La_clear_7 : decode bb_La_clear 7 = .ok (.i2l, 1) := by decide +kernel
theorem dd_La_clear_8 : decode bb_La_clear 8 = .ok (.lastore, 1) := by decide +kernel
theorem dd_La_clear_9 : decode bb_La_clear 9 = .ok (.goto 9, 3) := by decide +kernel
theorem dd_La_clear_12 : decode bb_La_clear 12 = .ok (.astore_n 3, 1) := by decide +kernel
theorem dd_La_clear_13 : decode bb_La_clear 13 = .ok (.iconst 1, 1) := by decide +kernel
theorem dd_La_clear_14 : decode bb_La_clear 14 = .ok (.ireturn, 1) := by decide +kernel
theorem dd_La_clear_15 : decode bb_La_clear 15 = .ok (.astore_n 3, 1) := by decide +kernel
theorem dd_La_clear_16 : decode bb_La_clear 16 = .ok (.iconst 2, 1) := by decide +kernel
theorem dd_La_clear_17 : decode bb_La_clear 17 = .ok (.ireturn, 1) := by decide +kernel
theorem dd_La_clear_18 : decode bb_La_clear 18 = .ok (.iconst 0, 1) := by decide +kernel
theorem dd_La_clear_19 : decode bb_La_clear 19 = .ok (.ireturn, 1) := by decide +kernel
theorem dd_La_law_0 : decode code 0 = .ok (.new 8, 3) := by decide +kernel
theorem dd_La_law_3 : decode code 3 = .ok (.dup, 1) := by decide +kernel
theorem dd_La_law_4 : decode code 4 = .ok (.aload_n 0, 1) := by decide +kernel
theorem dd_La_law_5 : decode code 5 = .ok (.iconst 0, 1) := by decide +kernel
theorem dd_La_law_6 : decode code 6 = .ok (.invokestatic 39, 3) := by decide +kernel
theorem dd_La_law_9 : decode code 9 = .ok (.invokespecial 45, 3) := by decide +kernel
theorem dd_La_law_12 : decode code 12 = .ok (.astore_n 1, 1) := by decide +kernel
theorem dd_La_law_13 : decode code 13 = .ok (.new 48, 3) := by decide +kernel
theorem dd_La_law_16 : decode code 16 = .ok (.dup, 1) := by decide +kernel
theorem dd_La_law_17 : decode code 17 = .ok (.aload_n 0, 1) := by decide +kernel
theorem dd_La_law_18 : decode code 18 = .ok (.iconst 0, 1) := by decide +kernel
theorem dd_La_law_19 : decode code 19 = .ok (.invokestatic 39, 3) := by decide +kernel
theorem dd_La_law_22 : decode code 22 = .ok (.invokespecial 50, 3) := by decide +kernel
theorem dd_La_law_25 : decode code 25 = .ok (.astore_n 2, 1) := by decide +kernel
theorem dd_La_law_26 : decode code 26 = .ok (.iconst 1, 1) := by decide +kernel
theorem dd_La_law_27 : decode code 27 = .ok (.newarray .long, 2) := by decide +kernel
theorem dd_La_law_29 : decode code 29 = .ok (.astore_n 3, 1) := by decide +kernel
theorem dd_La_law_30 : decode code 30 = .ok (.iconst 1, 1) := by decide +kernel
theorem dd_La_law_31 : decode code 31 = .ok (.istore 4, 2) := by decide +kernel
theorem dd_La_law_33 : decode code 33 = .ok (.iload 4, 2) := by decide +kernel
theorem dd_La_law_35 : decode code 35 = .ok (.aload_n 0, 1) := by decide +kernel
theorem dd_La_law_36 : decode code 36 = .ok (.arraylength, 1) := by decide +kernel
theorem dd_La_law_37 : decode code 37 = .ok (.iconst 4, 1) := by decide +kernel
theorem dd_La_law_38 : decode code 38 = .ok (.isub, 1) := by decide +kernel
theorem dd_La_law_39 : decode code 39 = .ok (.if_icmp .gt 835, 3) := by decide +kernel
theorem dd_La_law_42 : decode code 42 = .ok (.aload_n 0, 1) := by decide +kernel
theorem dd_La_law_43 : decode code 43 = .ok (.iload 4, 2) := by decide +kernel
theorem dd_La_law_45 : decode code 45 = .ok (.iaload, 1) := by decide +kernel
theorem dd_La_law_46 : decode code 46 = .ok (.bipush 31, 2) := by decide +kernel
theorem dd_La_law_48 : decode code 48 = .ok (.iand, 1) := by decide +kernel
theorem dd_La_law_49 : decode code 49 = .ok (.tableswitch 819 0 17 #[87, 143, 211, 271, 319, 375, 400, 456, 481, 506, 531, 596, 609, 634, 671, 708, 757, 794], 87) := by decide +kernel
theorem dd_La_law_136 : decode code 136 = .ok (.aload_n 1, 1) := by decide +kernel
theorem dd_La_law_137 : decode code 137 = .ok (.aload_n 0, 1) := by decide +kernel
theorem dd_La_law_138 : decode code 138 = .ok (.iload 4, 2) := by decide +kernel
theorem dd_La_law_140 : decode code 140 = .ok (.iconst 1, 1) := by decide +kernel
theorem dd_La_law_141 : decode code 141 = .ok (.iadd, 1) := by decide +kernel
theorem dd_La_law_142 : decode code 142 = .ok (.iaload, 1) := by decide +kernel
theorem dd_La_law_143 : decode code 143 = .ok (.aload_n 3, 1) := by decide +kernel
theorem dd_La_law_144 : decode code 144 = .ok (.invokestatic 51, 3) := by decide +kernel
theorem dd_La_law_147 : decode code 147 = .ok (.istore 5, 2) := by decide +kernel
theorem dd_La_law_149 : decode code 149 = .ok (.aload_n 2, 1) := by decide +kernel
theorem dd_La_law_150 : decode code 150 = .ok (.aload_n 0, 1) := by decide +kernel
theorem dd_La_law_151 : decode code 151 = .ok (.iload 4, 2) := by decide +kernel
theorem dd_La_law_153 : decode code 153 = .ok (.iconst 1, 1) := by decide +kernel
theorem dd_La_law_154 : decode code 154 = .ok (.iadd, 1) := by decide +kernel
theorem dd_La_law_155 : decode code 155 = .ok (.iaload, 1) := by decide +kernel
theorem dd_La_law_156 : decode code 156 = .ok (.invokevirtual 54, 3) := by decide +kernel
theorem dd_La_law_159 : decode code 159 = .ok (.istore 6, 2) := by decide +kernel
theorem dd_La_law_161 : decode code 161 = .ok (.aload_n 2, 1) := by decide +kernel
theorem dd_La_law_162 : decode code 162 = .ok (.invokevirtual 55, 3) := by decide +kernel
theorem dd_La_law_165 : decode code 165 = .ok (.iload 5, 2) := by decide +kernel
theorem dd_La_law_167 : decode code 167 = .ok (.if_icmp .eq 5, 3) := by decide +kernel
theorem dd_La_law_170 : decode code 170 = .ok (.iconst 0, 1) := by decide +kernel
theorem dd_La_law_171 : decode code 171 = .ok (.ireturn, 1) := by decide +kernel
theorem dd_La_law_172 : decode code 172 = .ok (.iload 5, 2) := by decide +kernel
theorem dd_La_law_174 : decode code 174 = .ok (.ifCond .ne 15, 3) := by decide +kernel
theorem dd_La_law_177 : decode code 177 = .ok (.aload_n 3, 1) := by decide +kernel
theorem dd_La_law_178 : decode code 178 = .ok (.iconst 0, 1) := by decide +kernel
theorem dd_La_law_179 : decode code 179 = .ok (.laload, 1) := by decide +kernel
theorem dd_La_law_180 : decode code 180 = .ok (.iload 6, 2) := by decide +kernel
theorem dd_La_law_182 : decode code 182 = .ok (.i2l, 1) := by decide +kernel
theorem dd_La_law_183 : decode code 183 = .ok (.lcmp, 1) := by decide +kernel
theorem dd_La_law_184 : decode code 184 = .ok (.ifCond .eq 5, 3) := by decide +kernel
theorem dd_La_law_187 : decode code 187 = .ok (.iconst 0, 1) := by decide +kernel
theorem dd_La_law_188 : decode code 188 = .ok (.ireturn, 1) := by decide +kernel
theorem dd_La_law_189 : decode code 189 = .ok (.goto 679, 3) := by decide +kernel
theorem dd_La_law_192 : decode code 192 = .ok (.aload_n 1, 1) := by decide +kernel
theorem dd_La_law_193 : decode code 193 = .ok (.aload_n 0, 1) := by decide +kernel
theorem dd_La_law_194 : decode code 194 = .ok (.iload 4, 2) := by decide +kernel
theorem dd_La_law_196 : decode code 196 = .ok (.iconst 1, 1) := by decide +kernel
theorem dd_La_law_197 : decode code 197 = .ok (.iadd, 1) := by decide +kernel
theorem dd_La_law_198 : decode code 198 = .ok (.iaload, 1) := by decide +kernel
theorem dd_La_law_199 : decode code 199 = .ok (.aload_n 0, 1) := by decide +kernel
theorem dd_La_law_200 : decode code 200 = .ok (.iload 4, 2) := by decide +kernel
theorem dd_La_law_202 : decode code 202 = .ok (.iconst 2, 1) := by decide +kernel
theorem dd_La_law_203 : decode code 203 = .ok (.iadd, 1) := by decide +kernel
theorem dd_La_law_204 : decode code 204 = .ok (.iaload, 1) := by decide +kernel
theorem dd_La_law_205 : decode code 205 = .ok (.aload_n 3, 1) := by decide +kernel
theorem dd_La_law_206 : decode code 206 = .ok (.invokestatic 59, 3) := by decide +kernel
theorem dd_La_law_209 : decode code 209 = .ok (.istore 5, 2) := by decide +kernel
theorem dd_La_law_211 : decode code 211 = .ok (.aload_n 2, 1) := by decide +kernel
theorem dd_La_law_212 : decode code 212 = .ok (.aload_n 0, 1) := by decide +kernel
theorem dd_La_law_213 : decode code 213 = .ok (.iload 4, 2) := by decide +kernel
theorem dd_La_law_215 : decode code 215 = .ok (.iconst 1, 1) := by decide +kernel
theorem dd_La_law_216 : decode code 216 = .ok (.iadd, 1) := by decide +kernel
theorem dd_La_law_217 : decode code 217 = .ok (.iaload, 1) := by decide +kernel
theorem dd_La_law_218 : decode code 218 = .ok (.aload_n 0, 1) := by decide +kernel
theorem dd_La_law_219 : decode code 219 = .ok (.iload 4, 2) := by decide +kernel
theorem dd_La_law_221 : decode code 221 = .ok (.iconst 2, 1) := by decide +kernel
theorem dd_La_law_222 : decode code 222 = .ok (.iadd, 1) := by decide +kernel
theorem dd_La_law_223 : decode code 223 = .ok (.iaload, 1) := by decide +kernel
theorem dd_La_law_224 : decode code 224 = .ok (.invokevirtual 62, 3) := by decide +kernel
theorem dd_La_law_227 : decode code 227 = .ok (.istore 6, 2) := by decide +kernel
theorem dd_La_law_229 : decode code 229 = .ok (.aload_n 2, 1) := by decide +kernel
theorem dd_La_law_230 : decode code 230 = .ok (.invokevirtual 55, 3) := by decide +kernel
theorem dd_La_law_233 : decode code 233 = .ok (.iload 5, 2) := by decide +kernel
theorem dd_La_law_235 : decode code 235 = .ok (.if_icmp .eq 5, 3) := by decide +kernel
theorem dd_La_law_238 : decode code 238 = .ok (.iconst 0, 1) := by decide +kernel
theorem dd_La_law_239 : decode code 239 = .ok (.ireturn, 1) := by decide +kernel
theorem dd_La_law_240 : decode code 240 = .ok (.iload 5, 2) := by decide +kernel
theorem dd_La_law_242 : decode code 242 = .ok (.ifCond .ne 15, 3) := by decide +kernel
theorem dd_La_law_245 : decode code 245 = .ok (.aload_n 3, 1) := by decide +kernel
theorem dd_La_law_246 : decode code 246 = .ok (.iconst 0, 1) := by decide +kernel
theorem dd_La_law_247 : decode code 247 = .ok (.laload, 1) := by decide +kernel
theorem dd_La_law_248 : decode code 248 = .ok (.iload 6, 2) := by decide +kernel
theorem dd_La_law_250 : decode code 250 = .ok (.i2l, 1) := by decide +kernel
theorem dd_La_law_251 : decode code 251 = .ok (.lcmp, 1) := by decide +kernel
theorem dd_La_law_252 : decode code 252 = .ok (.ifCond .eq 5, 3) := by decide +kernel
theorem dd_La_law_255 : decode code 255 = .ok (.iconst 0, 1) := by decide +kernel
theorem dd_La_law_256 : decode code 256 = .ok (.ireturn, 1) := by decide +kernel
theorem dd_La_law_257 : decode code 257 = .ok (.goto 611, 3) := by decide +kernel
theorem dd_La_law_260 : decode code 260 = .ok (.aload_n 1, 1) := by decide +kernel
theorem dd_La_law_261 : decode code 261 = .ok (.aload_n 0, 1) := by decide +kernel
theorem dd_La_law_262 : decode code 262 = .ok (.iload 4, 2) := by decide +kernel
theorem dd_La_law_264 : decode code 264 = .ok (.iconst 1, 1) := by decide +kernel
theorem dd_La_law_265 : decode code 265 = .ok (.iadd, 1) := by decide +kernel
theorem dd_La_law_266 : decode code 266 = .ok (.iaload, 1) := by decide +kernel
theorem dd_La_law_267 : decode code 267 = .ok (.aload_n 0, 1) := by decide +kernel
theorem dd_La_law_268 : decode code 268 = .ok (.iload 4, 2) := by decide +kernel
theorem dd_La_law_270 : decode code 270 = .ok (.iconst 2, 1) := by decide +kernel
theorem dd_La_law_271 : decode code 271 = .ok (.iadd, 1) := by decide +kernel
theorem dd_La_law_272 : decode code 272 = .ok (.iaload, 1) := by decide +kernel
theorem dd_La_law_273 : decode code 273 = .ok (.aload_n 0, 1) := by decide +kernel
theorem dd_La_law_274 : decode code 274 = .ok (.iload 4, 2) := by decide +kernel
theorem dd_La_law_276 : decode code 276 = .ok (.iconst 3, 1) := by decide +kernel
theorem dd_La_law_277 : decode code 277 = .ok (.iadd, 1) := by decide +kernel
theorem dd_La_law_278 : decode code 278 = .ok (.iaload, 1) := by decide +kernel
theorem dd_La_law_279 : decode code 279 = .ok (.invokestatic 63, 3) := by decide +kernel
theorem dd_La_law_282 : decode code 282 = .ok (.istore 5, 2) := by decide +kernel
theorem dd_La_law_284 : decode code 284 = .ok (.aload_n 2, 1) := by decide +kernel
theorem dd_La_law_285 : decode code 285 = .ok (.aload_n 0, 1) := by decide +kernel
theorem dd_La_law_286 : decode code 286 = .ok (.iload 4, 2) := by decide +kernel
theorem dd_La_law_288 : decode code 288 = .ok (.iconst 1, 1) := by decide +kernel
theorem dd_La_law_289 : decode code 289 = .ok (.iadd, 1) := by decide +kernel
theorem dd_La_law_290 : decode code 290 = .ok (.iaload, 1) := by decide +kernel
theorem dd_La_law_291 : decode code 291 = .ok (.aload_n 0, 1) := by decide +kernel
theorem dd_La_law_292 : decode code 292 = .ok (.iload 4, 2) := by decide +kernel
theorem dd_La_law_294 : decode code 294 = .ok (.iconst 2, 1) := by decide +kernel
theorem dd_La_law_295 : decode code 295 = .ok (.iadd, 1) := by decide +kernel
theorem dd_La_law_296 : decode code 296 = .ok (.iaload, 1) := by decide +kernel
theorem dd_La_law_297 : decode code 297 = .ok (.aload_n 0, 1) := by decide +kernel
theorem dd_La_law_298 : decode code 298 = .ok (.iload 4, 2) := by decide +kernel
theorem dd_La_law_300 : decode code 300 = .ok (.iconst 3, 1) := by decide +kernel
theorem dd_La_law_301 : decode code 301 = .ok (.iadd, 1) := by decide +kernel
theorem dd_La_law_302 : decode code 302 = .ok (.iaload, 1) := by decide +kernel
theorem dd_La_law_303 : decode code 303 = .ok (.invokevirtual 66, 3) := by decide +kernel
theorem dd_La_law_306 : decode code 306 = .ok (.aload_n 2, 1) := by decide +kernel
theorem dd_La_law_307 : decode code 307 = .ok (.invokevirtual 55, 3) := by decide +kernel
theorem dd_La_law_310 : decode code 310 = .ok (.iload 5, 2) := by decide +kernel
theorem dd_La_law_312 : decode code 312 = .ok (.if_icmp .eq 5, 3) := by decide +kernel
theorem dd_La_law_315 : decode code 315 = .ok (.iconst 0, 1) := by decide +kernel
theorem dd_La_law_316 : decode code 316 = .ok (.ireturn, 1) := by decide +kernel
theorem dd_La_law_317 : decode code 317 = .ok (.goto 551, 3) := by decide +kernel
theorem dd_La_law_320 : decode code 320 = .ok (.aload_n 1, 1) := by decide +kernel
theorem dd_La_law_321 : decode code 321 = .ok (.aload_n 0, 1) := by decide +kernel
theorem dd_La_law_322 : decode code 322 = .ok (.iload 4, 2) := by decide +kernel
theorem dd_La_law_324 : decode code 324 = .ok (.iconst 1, 1) := by decide +kernel
theorem dd_La_law_325 : decode code 325 = .ok (.iadd, 1) := by decide +kernel
theorem dd_La_law_326 : decode code 326 = .ok (.iaload, 1) := by decide +kernel
theorem dd_La_law_327 : decode code 327 = .ok (.aload_n 0, 1) := by decide +kernel
theorem dd_La_law_328 : decode code 328 = .ok (.iload 4, 2) := by decide +kernel
theorem dd_La_law_330 : decode code 330 = .ok (.iconst 2, 1) := by decide +kernel
theorem dd_La_law_331 : decode code 331 = .ok (.iadd, 1) := by decide +kernel
theorem dd_La_law_332 : decode code 332 = .ok (.iaload, 1) := by decide +kernel
theorem dd_La_law_333 : decode code 333 = .ok (.invokestatic 67, 3) := by decide +kernel
theorem dd_La_law_336 : decode code 336 = .ok (.istore 5, 2) := by decide +kernel
theorem dd_La_law_338 : decode code 338 = .ok (.aload_n 2, 1) := by decide +kernel
theorem dd_La_law_339 : decode code 339 = .ok (.aload_n 0, 1) := by decide +kernel
theorem dd_La_law_340 : decode code 340 = .ok (.iload 4, 2) := by decide +kernel
theorem dd_La_law_342 : decode code 342 = .ok (.iconst 1, 1) := by decide +kernel
theorem dd_La_law_343 : decode code 343 = .ok (.iadd, 1) := by decide +kernel
theorem dd_La_law_344 : decode code 344 = .ok (.iaload, 1) := by decide +kernel
theorem dd_La_law_345 : decode code 345 = .ok (.aload_n 0, 1) := by decide +kernel
theorem dd_La_law_346 : decode code 346 = .ok (.iload 4, 2) := by decide +kernel
theorem dd_La_law_348 : decode code 348 = .ok (.iconst 2, 1) := by decide +kernel
theorem dd_La_law_349 : decode code 349 = .ok (.iadd, 1) := by decide +kernel
theorem dd_La_law_350 : decode code 350 = .ok (.iaload, 1) := by decide +kernel
theorem dd_La_law_351 : decode code 351 = .ok (.invokevirtual 70, 3) := by decide +kernel
theorem dd_La_law_354 : decode code 354 = .ok (.aload_n 2, 1) := by decide +kernel
theorem dd_La_law_355 : decode code 355 = .ok (.invokevirtual 55, 3) := by decide +kernel
theorem dd_La_law_358 : decode code 358 = .ok (.iload 5, 2) := by decide +kernel
theorem dd_La_law_360 : decode code 360 = .ok (.if_icmp .eq 5, 3) := by decide +kernel
theorem dd_La_law_363 : decode code 363 = .ok (.iconst 0, 1) := by decide +kernel
theorem dd_La_law_364 : decode code 364 = .ok (.ireturn, 1) := by decide +kernel
theorem dd_La_law_365 : decode code 365 = .ok (.goto 503, 3) := by decide +kernel
theorem dd_La_law_368 : decode code 368 = .ok (.aload_n 1, 1) := by decide +kernel
theorem dd_La_law_369 : decode code 369 = .ok (.aload_n 0, 1) := by decide +kernel
theorem dd_La_law_370 : decode code 370 = .ok (.iload 4, 2) := by decide +kernel
theorem dd_La_law_372 : decode code 372 = .ok (.iconst 1, 1) := by decide +kernel
theorem dd_La_law_373 : decode code 373 = .ok (.iadd, 1) := by decide +kernel
theorem dd_La_law_374 : decode code 374 = .ok (.iaload, 1) := by decide +kernel
theorem dd_La_law_375 : decode code 375 = .ok (.aload_n 3, 1) := by decide +kernel
theorem dd_La_law_376 : decode code 376 = .ok (.invokestatic 71, 3) := by decide +kernel
theorem dd_La_law_379 : decode code 379 = .ok (.istore 5, 2) := by decide +kernel
theorem dd_La_law_381 : decode code 381 = .ok (.aload_n 2, 1) := by decide +kernel
theorem dd_La_law_382 : decode code 382 = .ok (.aload_n 0, 1) := by decide +kernel
theorem dd_La_law_383 : decode code 383 = .ok (.iload 4, 2) := by decide +kernel
theorem dd_La_law_385 : decode code 385 = .ok (.iconst 1, 1) := by decide +kernel
theorem dd_La_law_386 : decode code 386 = .ok (.iadd, 1) := by decide +kernel
theorem dd_La_law_387 : decode code 387 = .ok (.iaload, 1) := by decide +kernel
theorem dd_La_law_388 : decode code 388 = .ok (.invokevirtual 73, 3) := by decide +kernel
theorem dd_La_law_391 : decode code 391 = .ok (.istore 6, 2) := by decide +kernel
theorem dd_La_law_393 : decode code 393 = .ok (.aload_n 2, 1) := by decide +kernel
theorem dd_La_law_394 : decode code 394 = .ok (.invokevirtual 55, 3) := by decide +kernel
theorem dd_La_law_397 : decode code 397 = .ok (.iload 5, 2) := by decide +kernel
theorem dd_La_law_399 : decode code 399 = .ok (.if_icmp .eq 5, 3) := by decide +kernel
theorem dd_La_law_402 : decode code 402 = .ok (.iconst 0, 1) := by decide +kernel
theorem dd_La_law_403 : decode code 403 = .ok (.ireturn, 1) := by decide +kernel
theorem dd_La_law_404 : decode code 404 = .ok (.iload 5, 2) := by decide +kernel
theorem dd_La_law_406 : decode code 406 = .ok (.ifCond .ne 15, 3) := by decide +kernel
theorem dd_La_law_409 : decode code 409 = .ok (.aload_n 3, 1) := by decide +kernel
theorem dd_La_law_410 : decode code 410 = .ok (.iconst 0, 1) := by decide +kernel
theorem dd_La_law_411 : decode code 411 = .ok (.laload, 1) := by decide +kernel
theorem dd_La_law_412 : decode code 412 = .ok (.iload 6, 2) := by decide +kernel
theorem dd_La_law_414 : decode code 414 = .ok (.i2l, 1) := by decide +kernel
theorem dd_La_law_415 : decode code 415 = .ok (.lcmp, 1) := by decide +kernel
theorem dd_La_law_416 : decode code 416 = .ok (.ifCond .eq 5, 3) := by decide +kernel
theorem dd_La_law_419 : decode code 419 = .ok (.iconst 0, 1) := by decide +kernel
theorem dd_La_law_420 : decode code 420 = .ok (.ireturn, 1) := by decide +kernel
theorem dd_La_law_421 : decode code 421 = .ok (.goto 447, 3) := by decide +kernel
theorem dd_La_law_424 : decode code 424 = .ok (.aload_n 1, 1) := by decide +kernel
theorem dd_La_law_425 : decode code 425 = .ok (.aload_n 0, 1) := by decide +kernel
theorem dd_La_law_426 : decode code 426 = .ok (.iload 4, 2) := by decide +kernel
theorem dd_La_law_428 : decode code 428 = .ok (.iconst 1, 1) := by decide +kernel
theorem dd_La_law_429 : decode code 429 = .ok (.iadd, 1) := by decide +kernel
theorem dd_La_law_430 : decode code 430 = .ok (.iaload, 1) := by decide +kernel
theorem dd_La_law_431 : decode code 431 = .ok (.invokevirtual 74, 3) := by decide +kernel
theorem dd_La_law_434 : decode code 434 = .ok (.aload_n 2, 1) := by decide +kernel
theorem dd_La_law_435 : decode code 435 = .ok (.aload_n 0, 1) := by decide +kernel
theorem dd_La_law_436 : decode code 436 = .ok (.iload 4, 2) := by decide +kernel
theorem dd_La_law_438 : decode code 438 = .ok (.iconst 1, 1) := by decide +kernel
theorem dd_La_law_439 : decode code 439 = .ok (.iadd, 1) := by decide +kernel
theorem dd_La_law_440 : decode code 440 = .ok (.iaload, 1) := by decide +kernel
theorem dd_La_law_441 : decode code 441 = .ok (.invokevirtual 78, 3) := by decide +kernel
theorem dd_La_law_444 : decode code 444 = .ok (.if_icmp .eq 424, 3) := by decide +kernel
theorem dd_La_law_447 : decode code 447 = .ok (.iconst 0, 1) := by decide +kernel
theorem dd_La_law_448 : decode code 448 = .ok (.ireturn, 1) := by decide +kernel
theorem dd_La_law_449 : decode code 449 = .ok (.aload_n 1, 1) := by decide +kernel
theorem dd_La_law_450 : decode code 450 = .ok (.aload_n 0, 1) := by decide +kernel
theorem dd_La_law_451 : decode code 451 = .ok (.iload 4, 2) := by decide +kernel
theorem dd_La_law_453 : decode code 453 = .ok (.iconst 1, 1) := by decide +kernel
theorem dd_La_law_454 : decode code 454 = .ok (.iadd, 1) := by decide +kernel
theorem dd_La_law_455 : decode code 455 = .ok (.iaload, 1) := by decide +kernel
theorem dd_La_law_456 : decode code 456 = .ok (.aload_n 3, 1) := by decide +kernel
theorem dd_La_law_457 : decode code 457 = .ok (.invokestatic 79, 3) := by decide +kernel
theorem dd_La_law_460 : decode code 460 = .ok (.istore 5, 2) := by decide +kernel
theorem dd_La_law_462 : decode code 462 = .ok (.aload_n 2, 1) := by decide +kernel
theorem dd_La_law_463 : decode code 463 = .ok (.aload_n 0, 1) := by decide +kernel
theorem dd_La_law_464 : decode code 464 = .ok (.iload 4, 2) := by decide +kernel
theorem dd_La_law_466 : decode code 466 = .ok (.iconst 1, 1) := by decide +kernel
theorem dd_La_law_467 : decode code 467 = .ok (.iadd, 1) := by decide +kernel
theorem dd_La_law_468 : decode code 468 = .ok (.iaload, 1) := by decide +kernel
theorem dd_La_law_469 : decode code 469 = .ok (.invokevirtual 81, 3) := by decide +kernel
theorem dd_La_law_472 : decode code 472 = .ok (.istore 6, 2) := by decide +kernel
theorem dd_La_law_474 : decode code 474 = .ok (.aload_n 2, 1) := by decide +kernel
theorem dd_La_law_475 : decode code 475 = .ok (.invokevirtual 55, 3) := by decide +kernel
theorem dd_La_law_478 : decode code 478 = .ok (.iload 5, 2) := by decide +kernel
theorem dd_La_law_480 : decode code 480 = .ok (.if_icmp .eq 5, 3) := by decide +kernel
theorem dd_La_law_483 : decode code 483 = .ok (.iconst 0, 1) := by decide +kernel
theorem dd_La_law_484 : decode code 484 = .ok (.ireturn, 1) := by decide +kernel
theorem dd_La_law_485 : decode code 485 = .ok (.iload 5, 2) := by decide +kernel
theorem dd_La_law_487 : decode code 487 = .ok (.ifCond .ne 15, 3) := by decide +kernel
theorem dd_La_law_490 : decode code 490 = .ok (.aload_n 3, 1) := by decide +kernel
theorem dd_La_law_491 : decode code 491 = .ok (.iconst 0, 1) := by decide +kernel
theorem dd_La_law_492 : decode code 492 = .ok (.laload, 1) := by decide +kernel
theorem dd_La_law_493 : decode code 493 = .ok (.iload 6, 2) := by decide +kernel
theorem dd_La_law_495 : decode code 495 = .ok (.i2l, 1) := by decide +kernel
theorem dd_La_law_496 : decode code 496 = .ok (.lcmp, 1) := by decide +kernel
theorem dd_La_law_497 : decode code 497 = .ok (.ifCond .eq 5, 3) := by decide +kernel
theorem dd_La_law_500 : decode code 500 = .ok (.iconst 0, 1) := by decide +kernel
theorem dd_La_law_501 : decode code 501 = .ok (.ireturn, 1) := by decide +kernel
theorem dd_La_law_502 : decode code 502 = .ok (.goto 366, 3) := by decide +kernel
theorem dd_La_law_505 : decode code 505 = .ok (.aload_n 1, 1) := by decide +kernel
theorem dd_La_law_506 : decode code 506 = .ok (.aload_n 0, 1) := by decide +kernel
theorem dd_La_law_507 : decode code 507 = .ok (.iload 4, 2) := by decide +kernel
theorem dd_La_law_509 : decode code 509 = .ok (.iconst 1, 1) := by decide +kernel
theorem dd_La_law_510 : decode code 510 = .ok (.iadd, 1) := by decide +kernel
theorem dd_La_law_511 : decode code 511 = .ok (.iaload, 1) := by decide +kernel
theorem dd_La_law_512 : decode code 512 = .ok (.invokevirtual 82, 3) := by decide +kernel
theorem dd_La_law_515 : decode code 515 = .ok (.aload_n 2, 1) := by decide +kernel
theorem dd_La_law_516 : decode code 516 = .ok (.aload_n 0, 1) := by decide +kernel
theorem dd_La_law_517 : decode code 517 = .ok (.iload 4, 2) := by decide +kernel
theorem dd_La_law_519 : decode code 519 = .ok (.iconst 1, 1) := by decide +kernel
theorem dd_La_law_520 : decode code 520 = .ok (.iadd, 1) := by decide +kernel
theorem dd_La_law_521 : decode code 521 = .ok (.iaload, 1) := by decide +kernel
theorem dd_La_law_522 : decode code 522 = .ok (.invokevirtual 85, 3) := by decide +kernel
theorem dd_La_law_525 : decode code 525 = .ok (.if_icmp .eq 343, 3) := by decide +kernel
theorem dd_La_law_528 : decode code 528 = .ok (.iconst 0, 1) := by decide +kernel
theorem dd_La_law_529 : decode code 529 = .ok (.ireturn, 1) := by decide +kernel
theorem dd_La_law_530 : decode code 530 = .ok (.aload_n 1, 1) := by decide +kernel
theorem dd_La_law_531 : decode code 531 = .ok (.aload_n 0, 1) := by decide +kernel
theorem dd_La_law_532 : decode code 532 = .ok (.iload 4, 2) := by decide +kernel
theorem dd_La_law_534 : decode code 534 = .ok (.iconst 1, 1) := by decide +kernel
theorem dd_La_law_535 : decode code 535 = .ok (.iadd, 1) := by decide +kernel
theorem dd_La_law_536 : decode code 536 = .ok (.iaload, 1) := by decide +kernel
theorem dd_La_law_537 : decode code 537 = .ok (.invokevirtual 86, 3) := by decide +kernel
theorem dd_La_law_540 : decode code 540 = .ok (.aload_n 2, 1) := by decide +kernel
theorem dd_La_law_541 : decode code 541 = .ok (.aload_n 0, 1) := by decide +kernel
theorem dd_La_law_542 : decode code 542 = .ok (.iload 4, 2) := by decide +kernel
theorem dd_La_law_544 : decode code 544 = .ok (.iconst 1, 1) := by decide +kernel
theorem dd_La_law_545 : decode code 545 = .ok (.iadd, 1) := by decide +kernel
theorem dd_La_law_546 : decode code 546 = .ok (.iaload, 1) := by decide +kernel
theorem dd_La_law_547 : decode code 547 = .ok (.invokevirtual 89, 3) := by decide +kernel
theorem dd_La_law_550 : decode code 550 = .ok (.if_icmp .eq 318, 3) := by decide +kernel
theorem dd_La_law_553 : decode code 553 = .ok (.iconst 0, 1) := by decide +kernel
theorem dd_La_law_554 : decode code 554 = .ok (.ireturn, 1) := by decide +kernel
theorem dd_La_law_555 : decode code 555 = .ok (.aload_n 1, 1) := by decide +kernel
theorem dd_La_law_556 : decode code 556 = .ok (.aload_n 0, 1) := by decide +kernel
theorem dd_La_law_557 : decode code 557 = .ok (.iload 4, 2) := by decide +kernel
theorem dd_La_law_559 : decode code 559 = .ok (.iconst 1, 1) := by decide +kernel
theorem dd_La_law_560 : decode code 560 = .ok (.iadd, 1) := by decide +kernel
theorem dd_La_law_561 : decode code 561 = .ok (.iaload, 1) := by decide +kernel
theorem dd_La_law_562 : decode code 562 = .ok (.invokevirtual 90, 3) := by decide +kernel
theorem dd_La_law_565 : decode code 565 = .ok (.aload_n 2, 1) := by decide +kernel
theorem dd_La_law_566 : decode code 566 = .ok (.aload_n 0, 1) := by decide +kernel
theorem dd_La_law_567 : decode code 567 = .ok (.iload 4, 2) := by decide +kernel
theorem dd_La_law_569 : decode code 569 = .ok (.iconst 1, 1) := by decide +kernel
theorem dd_La_law_570 : decode code 570 = .ok (.iadd, 1) := by decide +kernel
theorem dd_La_law_571 : decode code 571 = .ok (.iaload, 1) := by decide +kernel
theorem dd_La_law_572 : decode code 572 = .ok (.invokevirtual 93, 3) := by decide +kernel
theorem dd_La_law_575 : decode code 575 = .ok (.if_icmp .eq 293, 3) := by decide +kernel
theorem dd_La_law_578 : decode code 578 = .ok (.iconst 0, 1) := by decide +kernel
theorem dd_La_law_579 : decode code 579 = .ok (.ireturn, 1) := by decide +kernel
theorem dd_La_law_580 : decode code 580 = .ok (.aload_n 1, 1) := by decide +kernel
theorem dd_La_law_581 : decode code 581 = .ok (.aload_n 0, 1) := by decide +kernel
theorem dd_La_law_582 : decode code 582 = .ok (.iload 4, 2) := by decide +kernel
theorem dd_La_law_584 : decode code 584 = .ok (.iconst 1, 1) := by decide +kernel
theorem dd_La_law_585 : decode code 585 = .ok (.iadd, 1) := by decide +kernel
theorem dd_La_law_586 : decode code 586 = .ok (.iaload, 1) := by decide +kernel
theorem dd_La_law_587 : decode code 587 = .ok (.aload_n 0, 1) := by decide +kernel
theorem dd_La_law_588 : decode code 588 = .ok (.iload 4, 2) := by decide +kernel
theorem dd_La_law_590 : decode code 590 = .ok (.iconst 2, 1) := by decide +kernel
theorem dd_La_law_591 : decode code 591 = .ok (.iadd, 1) := by decide +kernel
theorem dd_La_law_592 : decode code 592 = .ok (.iaload, 1) := by decide +kernel
theorem dd_La_law_593 : decode code 593 = .ok (.aload_n 0, 1) := by decide +kernel
theorem dd_La_law_594 : decode code 594 = .ok (.iload 4, 2) := by decide +kernel
theorem dd_La_law_596 : decode code 596 = .ok (.iconst 3, 1) := by decide +kernel
theorem dd_La_law_597 : decode code 597 = .ok (.iadd, 1) := by decide +kernel
theorem dd_La_law_598 : decode code 598 = .ok (.iaload, 1) := by decide +kernel
theorem dd_La_law_599 : decode code 599 = .ok (.ifCond .eq 7, 3) := by decide +kernel
theorem dd_La_law_602 : decode code 602 = .ok (.iconst 1, 1) := by decide +kernel
theorem dd_La_law_603 : decode code 603 = .ok (.goto 4, 3) := by decide +kernel
theorem dd_La_law_606 : decode code 606 = .ok (.iconst 0, 1) := by decide +kernel
theorem dd_La_law_607 : decode code 607 = .ok (.invokevirtual 94, 3) := by decide +kernel
theorem dd_La_law_610 : decode code 610 = .ok (.aload_n 2, 1) := by decide +kernel
theorem dd_La_law_611 : decode code 611 = .ok (.aload_n 0, 1) := by decide +kernel
theorem dd_La_law_612 : decode code 612 = .ok (.iload 4, 2) := by decide +kernel
theorem dd_La_law_614 : decode code 614 = .ok (.iconst 1, 1) := by decide +kernel
theorem dd_La_law_615 : decode code 615 = .ok (.iadd, 1) := by decide +kernel
theorem dd_La_law_616 : decode code 616 = .ok (.iaload, 1) := by decide +kernel
theorem dd_La_law_617 : decode code 617 = .ok (.aload_n 0, 1) := by decide +kernel
theorem dd_La_law_618 : decode code 618 = .ok (.iload 4, 2) := by decide +kernel
theorem dd_La_law_620 : decode code 620 = .ok (.iconst 2, 1) := by decide +kernel
theorem dd_La_law_621 : decode code 621 = .ok (.iadd, 1) := by decide +kernel
theorem dd_La_law_622 : decode code 622 = .ok (.iaload, 1) := by decide +kernel
theorem dd_La_law_623 : decode code 623 = .ok (.aload_n 0, 1) := by decide +kernel
theorem dd_La_law_624 : decode code 624 = .ok (.iload 4, 2) := by decide +kernel
theorem dd_La_law_626 : decode code 626 = .ok (.iconst 3, 1) := by decide +kernel
theorem dd_La_law_627 : decode code 627 = .ok (.iadd, 1) := by decide +kernel
theorem dd_La_law_628 : decode code 628 = .ok (.iaload, 1) := by decide +kernel
theorem dd_La_law_629 : decode code 629 = .ok (.ifCond .eq 7, 3) := by decide +kernel
theorem dd_La_law_632 : decode code 632 = .ok (.iconst 1, 1) := by decide +kernel
theorem dd_La_law_633 : decode code 633 = .ok (.goto 4, 3) := by decide +kernel
theorem dd_La_law_636 : decode code 636 = .ok (.iconst 0, 1) := by decide +kernel
theorem dd_La_law_637 : decode code 637 = .ok (.invokevirtual 98, 3) := by decide +kernel
theorem dd_La_law_640 : decode code 640 = .ok (.if_icmp .eq 228, 3) := by decide +kernel
theorem dd_La_law_643 : decode code 643 = .ok (.iconst 0, 1) := by decide +kernel
theorem dd_La_law_644 : decode code 644 = .ok (.ireturn, 1) := by decide +kernel
theorem dd_La_law_645 : decode code 645 = .ok (.aload_n 1, 1) := by decide +kernel
theorem dd_La_law_646 : decode code 646 = .ok (.invokevirtual 99, 3) := by decide +kernel
theorem dd_La_law_649 : decode code 649 = .ok (.aload_n 2, 1) := by decide +kernel
theorem dd_La_law_650 : decode code 650 = .ok (.invokevirtual 102, 3) := by decide +kernel
theorem dd_La_law_653 : decode code 653 = .ok (.if_icmp .eq 215, 3) := by decide +kernel
theorem dd_La_law_656 : decode code 656 = .ok (.iconst 0, 1) := by decide +kernel
theorem dd_La_law_657 : decode code 657 = .ok (.ireturn, 1) := by decide +kernel
theorem dd_La_law_658 : decode code 658 = .ok (.aload_n 1, 1) := by decide +kernel
theorem dd_La_law_659 : decode code 659 = .ok (.aload_n 0, 1) := by decide +kernel
theorem dd_La_law_660 : decode code 660 = .ok (.iload 4, 2) := by decide +kernel
theorem dd_La_law_662 : decode code 662 = .ok (.iconst 1, 1) := by decide +kernel
theorem dd_La_law_663 : decode code 663 = .ok (.iadd, 1) := by decide +kernel
theorem dd_La_law_664 : decode code 664 = .ok (.iaload, 1) := by decide +kernel
theorem dd_La_law_665 : decode code 665 = .ok (.invokevirtual 103, 3) := by decide +kernel
theorem dd_La_law_668 : decode code 668 = .ok (.aload_n 2, 1) := by decide +kernel
theorem dd_La_law_669 : decode code 669 = .ok (.aload_n 0, 1) := by decide +kernel
theorem dd_La_law_670 : decode code 670 = .ok (.iload 4, 2) := by decide +kernel
theorem dd_La_law_672 : decode code 672 = .ok (.iconst 1, 1) := by decide +kernel
theorem dd_La_law_673 : decode code 673 = .ok (.iadd, 1) := by decide +kernel
theorem dd_La_law_674 : decode code 674 = .ok (.iaload, 1) := by decide +kernel
theorem dd_La_law_675 : decode code 675 = .ok (.invokevirtual 106, 3) := by decide +kernel
theorem dd_La_law_678 : decode code 678 = .ok (.if_icmp .eq 190, 3) := by decide +kernel
theorem dd_La_law_681 : decode code 681 = .ok (.iconst 0, 1) := by decide +kernel
theorem dd_La_law_682 : decode code 682 = .ok (.ireturn, 1) := by decide +kernel
theorem dd_La_law_683 : decode code 683 = .ok (.aload_n 1, 1) := by decide +kernel
theorem dd_La_law_684 : decode code 684 = .ok (.aload_n 0, 1) := by decide +kernel
theorem dd_La_law_685 : decode code 685 = .ok (.iload 4, 2) := by decide +kernel
theorem dd_La_law_687 : decode code 687 = .ok (.iconst 1, 1) := by decide +kernel
theorem dd_La_law_688 : decode code 688 = .ok (.iadd, 1) := by decide +kernel
theorem dd_La_law_689 : decode code 689 = .ok (.iaload, 1) := by decide +kernel
theorem dd_La_law_690 : decode code 690 = .ok (.aload_n 0, 1) := by decide +kernel
theorem dd_La_law_691 : decode code 691 = .ok (.iload 4, 2) := by decide +kernel
theorem dd_La_law_693 : decode code 693 = .ok (.iconst 2, 1) := by decide +kernel
theorem dd_La_law_694 : decode code 694 = .ok (.iadd, 1) := by decide +kernel
theorem dd_La_law_695 : decode code 695 = .ok (.iaload, 1) := by decide +kernel
theorem dd_La_law_696 : decode code 696 = .ok (.invokevirtual 107, 3) := by decide +kernel
theorem dd_La_law_699 : decode code 699 = .ok (.aload_n 2, 1) := by decide +kernel
theorem dd_La_law_700 : decode code 700 = .ok (.aload_n 0, 1) := by decide +kernel
theorem dd_La_law_701 : decode code 701 = .ok (.iload 4, 2) := by decide +kernel
theorem dd_La_law_703 : decode code 703 = .ok (.iconst 1, 1) := by decide +kernel
theorem dd_La_law_704 : decode code 704 = .ok (.iadd, 1) := by decide +kernel
theorem dd_La_law_705 : decode code 705 = .ok (.iaload, 1) := by decide +kernel
theorem dd_La_law_706 : decode code 706 = .ok (.aload_n 0, 1) := by decide +kernel
theorem dd_La_law_707 : decode code 707 = .ok (.iload 4, 2) := by decide +kernel
theorem dd_La_law_709 : decode code 709 = .ok (.iconst 2, 1) := by decide +kernel
theorem dd_La_law_710 : decode code 710 = .ok (.iadd, 1) := by decide +kernel
theorem dd_La_law_711 : decode code 711 = .ok (.iaload, 1) := by decide +kernel
theorem dd_La_law_712 : decode code 712 = .ok (.invokevirtual 110, 3) := by decide +kernel
theorem dd_La_law_715 : decode code 715 = .ok (.if_icmp .eq 153, 3) := by decide +kernel
theorem dd_La_law_718 : decode code 718 = .ok (.iconst 0, 1) := by decide +kernel
theorem dd_La_law_719 : decode code 719 = .ok (.ireturn, 1) := by decide +kernel
theorem dd_La_law_720 : decode code 720 = .ok (.aload_n 1, 1) := by decide +kernel
theorem dd_La_law_721 : decode code 721 = .ok (.aload_n 0, 1) := by decide +kernel
theorem dd_La_law_722 : decode code 722 = .ok (.iload 4, 2) := by decide +kernel
theorem dd_La_law_724 : decode code 724 = .ok (.iconst 1, 1) := by decide +kernel
theorem dd_La_law_725 : decode code 725 = .ok (.iadd, 1) := by decide +kernel
theorem dd_La_law_726 : decode code 726 = .ok (.iaload, 1) := by decide +kernel
theorem dd_La_law_727 : decode code 727 = .ok (.aload_n 0, 1) := by decide +kernel
theorem dd_La_law_728 : decode code 728 = .ok (.iload 4, 2) := by decide +kernel
theorem dd_La_law_730 : decode code 730 = .ok (.iconst 2, 1) := by decide +kernel
theorem dd_La_law_731 : decode code 731 = .ok (.iadd, 1) := by decide +kernel
theorem dd_La_law_732 : decode code 732 = .ok (.iaload, 1) := by decide +kernel
theorem dd_La_law_733 : decode code 733 = .ok (.invokevirtual 111, 3) := by decide +kernel
theorem dd_La_law_736 : decode code 736 = .ok (.aload_n 2, 1) := by decide +kernel
theorem dd_La_law_737 : decode code 737 = .ok (.aload_n 0, 1) := by decide +kernel
theorem dd_La_law_738 : decode code 738 = .ok (.iload 4, 2) := by decide +kernel
theorem dd_La_law_740 : decode code 740 = .ok (.iconst 1, 1) := by decide +kernel
theorem dd_La_law_741 : decode code 741 = .ok (.iadd, 1) := by decide +kernel
theorem dd_La_law_742 : decode code 742 = .ok (.iaload, 1) := by decide +kernel
theorem dd_La_law_743 : decode code 743 = .ok (.aload_n 0, 1) := by decide +kernel
theorem dd_La_law_744 : decode code 744 = .ok (.iload 4, 2) := by decide +kernel
theorem dd_La_law_746 : decode code 746 = .ok (.iconst 2, 1) := by decide +kernel
theorem dd_La_law_747 : decode code 747 = .ok (.iadd, 1) := by decide +kernel
theorem dd_La_law_748 : decode code 748 = .ok (.iaload, 1) := by decide +kernel
theorem dd_La_law_749 : decode code 749 = .ok (.invokevirtual 114, 3) := by decide +kernel
theorem dd_La_law_752 : decode code 752 = .ok (.if_icmp .eq 116, 3) := by decide +kernel
theorem dd_La_law_755 : decode code 755 = .ok (.iconst 0, 1) := by decide +kernel
theorem dd_La_law_756 : decode code 756 = .ok (.ireturn, 1) := by decide +kernel
theorem dd_La_law_757 : decode code 757 = .ok (.aload_n 1, 1) := by decide +kernel
theorem dd_La_law_758 : decode code 758 = .ok (.aload_n 0, 1) := by decide +kernel
theorem dd_La_law_759 : decode code 759 = .ok (.iload 4, 2) := by decide +kernel
theorem dd_La_law_761 : decode code 761 = .ok (.iconst 1, 1) := by decide +kernel
theorem dd_La_law_762 : decode code 762 = .ok (.iadd, 1) := by decide +kernel
theorem dd_La_law_763 : decode code 763 = .ok (.iaload, 1) := by decide +kernel
theorem dd_La_law_764 : decode code 764 = .ok (.aload_n 0, 1) := by decide +kernel
theorem dd_La_law_765 : decode code 765 = .ok (.iload 4, 2) := by decide +kernel
theorem dd_La_law_767 : decode code 767 = .ok (.iconst 2, 1) := by decide +kernel
theorem dd_La_law_768 : decode code 768 = .ok (.iadd, 1) := by decide +kernel
theorem dd_La_law_769 : decode code 769 = .ok (.iaload, 1) := by decide +kernel
theorem dd_La_law_770 : decode code 770 = .ok (.aload_n 0, 1) := by decide +kernel
theorem dd_La_law_771 : decode code 771 = .ok (.iload 4, 2) := by decide +kernel
theorem dd_La_law_773 : decode code 773 = .ok (.iconst 3, 1) := by decide +kernel
theorem dd_La_law_774 : decode code 774 = .ok (.iadd, 1) := by decide +kernel
theorem dd_La_law_775 : decode code 775 = .ok (.iaload, 1) := by decide +kernel
theorem dd_La_law_776 : decode code 776 = .ok (.invokevirtual 115, 3) := by decide +kernel
theorem dd_La_law_779 : decode code 779 = .ok (.aload_n 2, 1) := by decide +kernel
theorem dd_La_law_780 : decode code 780 = .ok (.aload_n 0, 1) := by decide +kernel
theorem dd_La_law_781 : decode code 781 = .ok (.iload 4, 2) := by decide +kernel
theorem dd_La_law_783 : decode code 783 = .ok (.iconst 1, 1) := by decide +kernel
theorem dd_La_law_784 : decode code 784 = .ok (.iadd, 1) := by decide +kernel
theorem dd_La_law_785 : decode code 785 = .ok (.iaload, 1) := by decide +kernel
theorem dd_La_law_786 : decode code 786 = .ok (.aload_n 0, 1) := by decide +kernel
theorem dd_La_law_787 : decode code 787 = .ok (.iload 4, 2) := by decide +kernel
theorem dd_La_law_789 : decode code 789 = .ok (.iconst 2, 1) := by decide +kernel
theorem dd_La_law_790 : decode code 790 = .ok (.iadd, 1) := by decide +kernel
theorem dd_La_law_791 : decode code 791 = .ok (.iaload, 1) := by decide +kernel
theorem dd_La_law_792 : decode code 792 = .ok (.aload_n 0, 1) := by decide +kernel
theorem dd_La_law_793 : decode code 793 = .ok (.iload 4, 2) := by decide +kernel
theorem dd_La_law_795 : decode code 795 = .ok (.iconst 3, 1) := by decide +kernel
theorem dd_La_law_796 : decode code 796 = .ok (.iadd, 1) := by decide +kernel
theorem dd_La_law_797 : decode code 797 = .ok (.iaload, 1) := by decide +kernel
theorem dd_La_law_798 : decode code 798 = .ok (.invokevirtual 119, 3) := by decide +kernel
theorem dd_La_law_801 : decode code 801 = .ok (.if_icmp .eq 67, 3) := by decide +kernel
theorem dd_La_law_804 : decode code 804 = .ok (.iconst 0, 1) := by decide +kernel
theorem dd_La_law_805 : decode code 805 = .ok (.ireturn, 1) := by decide +kernel
theorem dd_La_law_806 : decode code 806 = .ok (.aload_n 1, 1) := by decide +kernel
theorem dd_La_law_807 : decode code 807 = .ok (.aload_n 0, 1) := by decide +kernel
theorem dd_La_law_808 : decode code 808 = .ok (.iload 4, 2) := by decide +kernel
theorem dd_La_law_810 : decode code 810 = .ok (.iconst 1, 1) := by decide +kernel
theorem dd_La_law_811 : decode code 811 = .ok (.iadd, 1) := by decide +kernel
theorem dd_La_law_812 : decode code 812 = .ok (.iaload, 1) := by decide +kernel
theorem dd_La_law_813 : decode code 813 = .ok (.aload_n 0, 1) := by decide +kernel
theorem dd_La_law_814 : decode code 814 = .ok (.iload 4, 2) := by decide +kernel
theorem dd_La_law_816 : decode code 816 = .ok (.iconst 2, 1) := by decide +kernel
theorem dd_La_law_817 : decode code 817 = .ok (.iadd, 1) := by decide +kernel
theorem dd_La_law_818 : decode code 818 = .ok (.iaload, 1) := by decide +kernel
theorem dd_La_law_819 : decode code 819 = .ok (.invokevirtual 120, 3) := by decide +kernel
theorem dd_La_law_822 : decode code 822 = .ok (.aload_n 2, 1) := by decide +kernel
theorem dd_La_law_823 : decode code 823 = .ok (.aload_n 0, 1) := by decide +kernel
theorem dd_La_law_824 : decode code 824 = .ok (.iload 4, 2) := by decide +kernel
theorem dd_La_law_826 : decode code 826 = .ok (.iconst 1, 1) := by decide +kernel
theorem dd_La_law_827 : decode code 827 = .ok (.iadd, 1) := by decide +kernel
theorem dd_La_law_828 : decode code 828 = .ok (.iaload, 1) := by decide +kernel
theorem dd_La_law_829 : decode code 829 = .ok (.aload_n 0, 1) := by decide +kernel
theorem dd_La_law_830 : decode code 830 = .ok (.iload 4, 2) := by decide +kernel
theorem dd_La_law_832 : decode code 832 = .ok (.iconst 2, 1) := by decide +kernel
theorem dd_La_law_833 : decode code 833 = .ok (.iadd, 1) := by decide +kernel
theorem dd_La_law_834 : decode code 834 = .ok (.iaload, 1) := by decide +kernel
theorem dd_La_law_835 : decode code 835 = .ok (.invokevirtual 123, 3) := by decide +kernel
theorem dd_La_law_838 : decode code 838 = .ok (.if_icmp .eq 30, 3) := by decide +kernel
theorem dd_La_law_841 : decode code 841 = .ok (.iconst 0, 1) := by decide +kernel
theorem dd_La_law_842 : decode code 842 = .ok (.ireturn, 1) := by decide +kernel
theorem dd_La_law_843 : decode code 843 = .ok (.aload_n 1, 1) := by decide +kernel
theorem dd_La_law_844 : decode code 844 = .ok (.aload_n 0, 1) := by decide +kernel
theorem dd_La_law_845 : decode code 845 = .ok (.iload 4, 2) := by decide +kernel
theorem dd_La_law_847 : decode code 847 = .ok (.iconst 1, 1) := by decide +kernel
theorem dd_La_law_848 : decode code 848 = .ok (.iadd, 1) := by decide +kernel
theorem dd_La_law_849 : decode code 849 = .ok (.iaload, 1) := by decide +kernel
theorem dd_La_law_850 : decode code 850 = .ok (.invokevirtual 124, 3) := by decide +kernel
theorem dd_La_law_853 : decode code 853 = .ok (.aload_n 2, 1) := by decide +kernel
theorem dd_La_law_854 : decode code 854 = .ok (.aload_n 0, 1) := by decide +kernel
theorem dd_La_law_855 : decode code 855 = .ok (.iload 4, 2) := by decide +kernel
theorem dd_La_law_857 : decode code 857 = .ok (.iconst 1, 1) := by decide +kernel
theorem dd_La_law_858 : decode code 858 = .ok (.iadd, 1) := by decide +kernel
theorem dd_La_law_859 : decode code 859 = .ok (.iaload, 1) := by decide +kernel
theorem dd_La_law_860 : decode code 860 = .ok (.invokevirtual 127, 3) := by decide +kernel
theorem dd_La_law_863 : decode code 863 = .ok (.if_icmp .eq 5, 3) := by decide +kernel
theorem dd_La_law_866 : decode code 866 = .ok (.iconst 0, 1) := by decide +kernel
theorem dd_La_law_867 : decode code 867 = .ok (.ireturn, 1) := by decide +kernel
theorem dd_La_law_868 : decode code 868 = .ok (.iinc 4 4, 3) := by decide +kernel
theorem dd_La_law_871 : decode code 871 = .ok (.goto (-838), 3) := by decide +kernel
theorem dd_La_law_874 : decode code 874 = .ok (.iconst 1, 1) := by decide +kernel
theorem dd_La_law_875 : decode code 875 = .ok (.ireturn, 1) := by decide +kernel
