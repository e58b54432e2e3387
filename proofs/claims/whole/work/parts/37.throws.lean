def th_all (own : String) (ic ei : Nat) : Bool := (Bundle.ownAtoms own ic (nn_X ei) nn_XN).all (fun a => decide (a ∈ nn_TS) || decide (a ∈ nn_NS) || decide (a ∈ nn_ZS))
theorem th_of {own : String} {ic ei : Nat} (h : th_all own ic ei = true) : ∀ a ∈ Bundle.ownAtoms own ic (nn_X ei) nn_XN, a ∈ nn_TS ∨ a ∈ nn_NS ∨ a ∈ nn_ZS := by
  intro a ha
  have h2 := List.all_eq_true.mp h a ha
  simp only [Bool.or_eq_true, decide_eq_true_eq] at h2
  rcases h2 with (h3 | h3) | h3
  · exact Or.inl h3
  · exact Or.inr (Or.inl h3)
  · exact Or.inr (Or.inr h3)
def th_allN (own : String) (ic : Nat) : Bool := (th_NA own ic (nn_X 2) "java/lang/RuntimeException" 13 prog_18_method_4_code ["java/lang/Exception"]).all (fun a => decide (a ∈ nn_TS) || decide (a ∈ nn_NS) || decide (a ∈ nn_ZS))
theorem th_ofN {own : String} {ic : Nat} (h : th_allN own ic = true) : ∀ a ∈ th_NA own ic (nn_X 2) "java/lang/RuntimeException" 13 prog_18_method_4_code ["java/lang/Exception"], a ∈ nn_TS ∨ a ∈ nn_NS ∨ a ∈ nn_ZS := by
  intro a ha
  have h2 := List.all_eq_true.mp h a ha
  simp only [Bool.or_eq_true, decide_eq_true_eq] at h2
  rcases h2 with (h3 | h3) | h3
  · exact Or.inl h3
  · exact Or.inr (Or.inl h3)
  · exact Or.inr (Or.inr h3)
theorem ta_TC_62 : th_all "TabletCommits" 62 0 = true := by decide +kernel
theorem to_TC_60 : th_ok "TabletCommits" 58 62 60 0 "no such client" := ⟨by decide, nn_in 303 (by decide +kernel) rfl, nn_in 304 (by decide +kernel) rfl, nn_in 11 (by decide +kernel) rfl, by decide, th_of ta_TC_62⟩
theorem ta_TC_73 : th_all "TabletCommits" 73 1 = true := by decide +kernel
theorem to_TC_71 : th_ok "TabletCommits" 69 73 71 1 "a transaction is open" := ⟨by decide, nn_in 372 (by decide +kernel) rfl, nn_in 373 (by decide +kernel) rfl, nn_in 12 (by decide +kernel) rfl, by decide, th_of ta_TC_73⟩
theorem to_TC_102 : th_ok "TabletCommits" 69 73 102 1 "the tablet is down" := ⟨by decide, nn_in 372 (by decide +kernel) rfl, nn_in 373 (by decide +kernel) rfl, nn_in 12 (by decide +kernel) rfl, by decide, th_of ta_TC_73⟩
theorem ta_TC_111 : th_all "TabletCommits" 111 3 = true := by decide +kernel
theorem to_TC_109 : th_ok "TabletCommits" 107 111 109 3 "the records of that time are swept" := ⟨by decide, nn_in 440 (by decide +kernel) rfl, nn_in 441 (by decide +kernel) rfl, nn_in 14 (by decide +kernel) rfl, by decide, th_of ta_TC_111⟩
theorem to_TC_119 : th_ok "TabletCommits" 69 73 119 1 "held or hindered" := ⟨by decide, nn_in 372 (by decide +kernel) rfl, nn_in 373 (by decide +kernel) rfl, nn_in 12 (by decide +kernel) rfl, by decide, th_of ta_TC_73⟩
theorem ta_TC_134 : th_allN "TabletCommits" 134 = true := by decide +kernel
theorem to_TC_132 : th_okN "TabletCommits" 130 134 132 "no value" := ⟨nn_in 516 (by decide +kernel) rfl, nn_in 424 (by decide +kernel) rfl, nn_in 13 (by decide +kernel) rfl, by decide, th_ofN ta_TC_134⟩
theorem to_TC_145 : th_okN "TabletCommits" 130 134 145 "no transaction is open" := ⟨nn_in 516 (by decide +kernel) rfl, nn_in 424 (by decide +kernel) rfl, nn_in 13 (by decide +kernel) rfl, by decide, th_ofN ta_TC_134⟩
theorem to_TC_160 : th_ok "TabletCommits" 58 62 160 0 "no such cell" := ⟨by decide, nn_in 303 (by decide +kernel) rfl, nn_in 304 (by decide +kernel) rfl, nn_in 11 (by decide +kernel) rfl, by decide, th_of ta_TC_62⟩
theorem to_TC_214 : th_ok "TabletCommits" 58 62 214 0 "no such client or cell" := ⟨by decide, nn_in 303 (by decide +kernel) rfl, nn_in 304 (by decide +kernel) rfl, nn_in 11 (by decide +kernel) rfl, by decide, th_of ta_TC_62⟩
theorem to_TC_216 : th_ok "TabletCommits" 69 73 216 1 "no transaction is reading" := ⟨by decide, nn_in 372 (by decide +kernel) rfl, nn_in 373 (by decide +kernel) rfl, nn_in 12 (by decide +kernel) rfl, by decide, th_of ta_TC_73⟩
theorem ta_Tr_55 : th_allN "TabletCommits$Transaction" 55 = true := by decide +kernel
theorem to_Tr_53 : th_okN "TabletCommits$Transaction" 51 55 53 "erased by the transaction itself" := ⟨nn_in 423 (by decide +kernel) rfl, nn_in 424 (by decide +kernel) rfl, nn_in 13 (by decide +kernel) rfl, by decide, th_ofN ta_Tr_55⟩
theorem kd_TC_begin : Cond.code yy_TC_begin bb_TC_begin 3 (some .int) ∈ nn_TS := nn_in 302 (by decide +kernel) rfl
theorem kd_TC_get : Cond.code yy_TC_get bb_TC_get 6 (some .int) ∈ nn_TS := nn_in 404 (by decide +kernel) rfl
theorem kd_TC_set : Cond.code yy_TC_set bb_TC_set 4 none ∈ nn_TS := nn_in 525 (by decide +kernel) rfl
theorem kd_TC_erase : Cond.code yy_TC_erase bb_TC_erase 3 none ∈ nn_TS := nn_in 536 (by decide +kernel) rfl
theorem kd_TC_step : Cond.code yy_TC_step bb_TC_step 4 (some .int) ∈ nn_TS := nn_in 547 (by decide +kernel) rfl
theorem kd_TC_clear : Cond.code yy_TC_clear bb_TC_clear 3 (some .int) ∈ nn_TS := nn_in 636 (by decide +kernel) rfl
theorem kd_TC_readingTransaction : Cond.code yy_TC_readingTransaction bb_TC_readingTransaction 4 (some (.object "TabletCommits$Transaction")) ∈ nn_TS := nn_in 408 (by decide +kernel) rfl
theorem kd_Tr_ownValue : Cond.code yy_Tr_ownValue bb_Tr_ownValue 2 (some .int) ∈ nn_TS := nn_in 418 (by decide +kernel) rfl
theorem ml_TC_84 : Cond.methodLink "TabletCommits" 84 yy_TC_readingTransaction ∈ nn_TS := nn_in 405 (by decide +kernel) rfl
theorem ml_TC_91 : Cond.methodLink "TabletCommits" 91 yy_Tr_ownValue ∈ nn_TS := nn_in 415 (by decide +kernel) rfl
