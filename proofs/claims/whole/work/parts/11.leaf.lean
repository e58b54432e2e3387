set_option maxRecDepth 20000 in
theorem ct_Or_init {l : Launch} {M : mm_M} {Q : Option Value → mm_M → Prop} {a : Nat} (hk : mm_k M a = some (.inl 1)) (hQ : Q none (mm_si (mm_si M a 0 1) a 1 0)) : ct_ l yy_Or_init bb_Or_init 1 none 1 0 0 [.ref a] M Q := by
  refine ct_of (by decide) (Nat.le_of_ble_eq_true rfl) (fun G A => ?_)
  refine jj_aload_n 0 dd_Or_init_0 rfl ?_
  refine jj_objI dd_Or_init_1 oi_Or_3 (Nat.le_of_ble_eq_true rfl) (Nat.le_of_ble_eq_true rfl) ?_
  refine jj_aload_n 0 dd_Or_init_4 rfl ?_
  refine jj_iconst (v := 1) dd_Or_init_5 rfl ?_
  refine jj_puti dd_Or_init_6 (Or.inl ⟨ff_Or_9, rfl⟩) hk (fun _ => rfl) ⟨rfl, rfl⟩ ?_
  refine jj_aload_n 0 dd_Or_init_9 rfl ?_
  refine jj_iconst (v := 0) dd_Or_init_10 rfl ?_
  refine jj_puti dd_Or_init_11 (Or.inl ⟨ff_Or_15, rfl⟩) hk (fun _ => rfl) ⟨rfl, rfl⟩ ?_
  refine jj_vret dd_Or_init_14 rfl ?_
  exact hQ
set_option maxRecDepth 20000 in
theorem ct_Or_handOut {l : Launch} {M : mm_M} {Q : Option Value → mm_M → Prop} {a : Nat} (hk : mm_k M a = some (.inl 1)) (hQ : Q (some (.int (mm_i M a 0))) (mm_si (mm_si M a 1 (if mm_i M a 1 < mm_i M a 0 then mm_i M a 0 + 7 else mm_i M a 1)) a 0 (mm_i M a 0 + 1))) : ct_ l yy_Or_handOut bb_Or_handOut 2 (some .int) 0 0 0 [.ref a] M Q := by
  refine ct_of (by decide) (Nat.le_of_ble_eq_true rfl) (fun G A => ?_)
  refine jj_aload_n 0 dd_Or_handOut_0 rfl ?_
  refine jj_geti dd_Or_handOut_1 ff_Or_9 hk (fun _ => rfl) ?_
  refine jj_aload_n 0 dd_Or_handOut_4 rfl ?_
  refine jj_geti dd_Or_handOut_5 ff_Or_15 hk (fun _ => rfl) ?_
  refine jj_icmp_le (tgt := 22) dd_Or_handOut_8 (by decide) (fun h8 => ?_) (fun h8 => ?_)
  · skip
    refine jj_aload_n 0 dd_Or_handOut_22 rfl ?_
    refine jj_geti dd_Or_handOut_23 ff_Or_9 hk (fun _ => rfl) ?_
    refine jj_istore_n (lv' := [(1, .int _), (0, .ref a)]) dd_Or_handOut_26 (Nat.le_of_ble_eq_true rfl) rfl ?_
    refine jj_aload_n 1 dd_Or_handOut_27 rfl ?_
    refine jj_dup dd_Or_handOut_28 rfl ?_
    refine jj_geti dd_Or_handOut_29 ff_Or_9 hk (fun _ => rfl) ?_
    refine jj_iconst (v := 1) dd_Or_handOut_32 rfl ?_
    refine jj_iadd dd_Or_handOut_33 ?_
    refine jj_puti dd_Or_handOut_34 (Or.inl ⟨ff_Or_9, rfl⟩) hk (fun _ => rfl) ⟨rfl, rfl⟩ ?_
    refine jj_iload_n 0 dd_Or_handOut_37 rfl ?_
    refine jj_iret dd_Or_handOut_38 rfl rfl ?_
    rw [if_neg (mm_nlt h8), mm_si_self] at hQ
    exact hQ
  · skip
    refine jj_aload_n 0 dd_Or_handOut_11 rfl ?_
    refine jj_aload_n 0 dd_Or_handOut_12 rfl ?_
    refine jj_geti dd_Or_handOut_13 ff_Or_9 hk (fun _ => rfl) ?_
    refine jj_bipush (v := 7) dd_Or_handOut_16 rfl ?_
    refine jj_iadd dd_Or_handOut_18 ?_
    refine jj_puti dd_Or_handOut_19 (Or.inl ⟨ff_Or_15, rfl⟩) hk (fun _ => rfl) ⟨rfl, rfl⟩ ?_
    refine jj_aload_n 0 dd_Or_handOut_22 rfl ?_
    refine jj_geti dd_Or_handOut_23 ff_Or_9 hk (fun _ => rfl) ?_
    refine jj_istore_n (lv' := [(1, .int _), (0, .ref a)]) dd_Or_handOut_26 (Nat.le_of_ble_eq_true rfl) rfl ?_
    refine jj_aload_n 1 dd_Or_handOut_27 rfl ?_
    refine jj_dup dd_Or_handOut_28 rfl ?_
    refine jj_geti dd_Or_handOut_29 ff_Or_9 hk (fun _ => rfl) ?_
    refine jj_iconst (v := 1) dd_Or_handOut_32 rfl ?_
    refine jj_iadd dd_Or_handOut_33 ?_
    refine jj_puti dd_Or_handOut_34 (Or.inl ⟨ff_Or_9, rfl⟩) hk (fun _ => rfl) ⟨rfl, rfl⟩ ?_
    refine jj_iload_n 0 dd_Or_handOut_37 rfl ?_
    refine jj_iret dd_Or_handOut_38 rfl rfl ?_
    rw [if_pos (mm_lt h8)] at hQ
    simpa [mm_ret, mm_k_si, mm_k_sr, mm_i_si, mm_i_sr, mm_r_si, mm_r_sr, mm_si_self] using hQ
set_option maxRecDepth 20000 in
theorem ct_Or_restart {l : Launch} {M : mm_M} {Q : Option Value → mm_M → Prop} {a : Nat} (hk : mm_k M a = some (.inl 1)) (hQ : Q (some (.int (mm_i M a 1 + 1))) (mm_si M a 0 (mm_i M a 1 + 1))) : ct_ l yy_Or_restart bb_Or_restart 1 (some .int) 0 0 0 [.ref a] M Q := by
  refine ct_of (by decide) (Nat.le_of_ble_eq_true rfl) (fun G A => ?_)
  refine jj_aload_n 0 dd_Or_restart_0 rfl ?_
  refine jj_aload_n 0 dd_Or_restart_1 rfl ?_
  refine jj_geti dd_Or_restart_2 ff_Or_15 hk (fun _ => rfl) ?_
  refine jj_iconst (v := 1) dd_Or_restart_5 rfl ?_
  refine jj_iadd dd_Or_restart_6 ?_
  refine jj_puti dd_Or_restart_7 (Or.inl ⟨ff_Or_9, rfl⟩) hk (fun _ => rfl) ⟨rfl, rfl⟩ ?_
  refine jj_aload_n 0 dd_Or_restart_10 rfl ?_
  refine jj_geti dd_Or_restart_11 ff_Or_9 hk (fun _ => rfl) ?_
  refine jj_iret dd_Or_restart_14 rfl rfl ?_
  simpa [mm_ret, mm_k_si, mm_k_sr, mm_i_si, mm_i_sr, mm_r_si, mm_r_sr, mm_si_self] using hQ
set_option maxRecDepth 20000 in
theorem ct_Ta_init {l : Launch} {M : mm_M} {Q : Option Value → mm_M → Prop} {a : Nat} (hk : mm_k M a = some (.inl 2)) (hQ : Q none (mm_si (mm_si (mm_si (mm_si (mm_si (mm_si M a 0 1) a 1 0) a 2 0) a 3 0) a 4 0) a 5 0)) : ct_ l yy_Ta_init bb_Ta_init 1 none 1 0 0 [.ref a] M Q := by
  refine ct_of (by decide) (Nat.le_of_ble_eq_true rfl) (fun G A => ?_)
  refine jj_aload_n 0 dd_Ta_init_0 rfl ?_
  refine jj_objI dd_Ta_init_1 oi_Ta_3 (Nat.le_of_ble_eq_true rfl) (Nat.le_of_ble_eq_true rfl) ?_
  refine jj_aload_n 0 dd_Ta_init_4 rfl ?_
  refine jj_iconst (v := 1) dd_Ta_init_5 rfl ?_
  refine jj_puti dd_Ta_init_6 (Or.inl ⟨ff_Ta_9, rfl⟩) hk (fun _ => rfl) ⟨rfl, rfl⟩ ?_
  refine jj_aload_n 0 dd_Ta_init_9 rfl ?_
  refine jj_iconst (v := 0) dd_Ta_init_10 rfl ?_
  refine jj_puti dd_Ta_init_11 (Or.inl ⟨ff_Ta_15, rfl⟩) hk (fun _ => rfl) ⟨rfl, rfl⟩ ?_
  refine jj_aload_n 0 dd_Ta_init_14 rfl ?_
  refine jj_iconst (v := 0) dd_Ta_init_15 rfl ?_
  refine jj_puti dd_Ta_init_16 (Or.inl ⟨ff_Ta_19, rfl⟩) hk (fun _ => rfl) ⟨rfl, rfl⟩ ?_
  refine jj_aload_n 0 dd_Ta_init_19 rfl ?_
  refine jj_iconst (v := 0) dd_Ta_init_20 rfl ?_
  refine jj_puti dd_Ta_init_21 (Or.inl ⟨ff_Ta_22, rfl⟩) hk (fun _ => rfl) ⟨rfl, rfl⟩ ?_
  refine jj_aload_n 0 dd_Ta_init_24 rfl ?_
  refine jj_iconst (v := 0) dd_Ta_init_25 rfl ?_
  refine jj_puti dd_Ta_init_26 (Or.inl ⟨ff_Ta_25, rfl⟩) hk (fun _ => rfl) ⟨rfl, rfl⟩ ?_
  refine jj_aload_n 0 dd_Ta_init_29 rfl ?_
  refine jj_iconst (v := 0) dd_Ta_init_30 rfl ?_
  refine jj_puti dd_Ta_init_31 (Or.inl ⟨ff_Ta_28, rfl⟩) hk (fun _ => rfl) ⟨rfl, rfl⟩ ?_
  refine jj_vret dd_Ta_init_34 rfl ?_
  exact hQ
set_option maxRecDepth 20000 in
theorem ct_Ta_failAt {l : Launch} {M : mm_M} {Q : Option Value → mm_M → Prop} {a : Nat} {x b : Int32} (hk : mm_k M a = some (.inl 2)) (hb : b = 0 ∨ b = 1) (hQ : Q none (mm_si (mm_si M a 4 x) a 5 b)) : ct_ l yy_Ta_failAt bb_Ta_failAt 3 none 0 0 0 [.ref a, .int x, .int b] M Q := by
  refine ct_of (by decide) (Nat.le_of_ble_eq_true rfl) (fun G A => ?_)
  refine jj_aload_n 0 dd_Ta_failAt_0 rfl ?_
  refine jj_iload_n 1 dd_Ta_failAt_1 rfl ?_
  refine jj_puti dd_Ta_failAt_2 (Or.inl ⟨ff_Ta_25, rfl⟩) hk (fun _ => rfl) ⟨rfl, rfl⟩ ?_
  refine jj_aload_n 0 dd_Ta_failAt_5 rfl ?_
  refine jj_iload_n 2 dd_Ta_failAt_6 rfl ?_
  refine jj_puti dd_Ta_failAt_7 (Or.inl ⟨ff_Ta_28, rfl⟩) hk (fun _ => rfl) (mm_bl hb) ?_
  refine jj_vret dd_Ta_failAt_10 rfl ?_
  exact hQ
set_option maxRecDepth 20000 in
theorem ct_Ta_comeUp {l : Launch} {M : mm_M} {Q : Option Value → mm_M → Prop} {a : Nat} (hk : mm_k M a = some (.inl 2)) (hQ : Q none (mm_si (mm_si M a 0 1) a 4 0)) : ct_ l yy_Ta_comeUp bb_Ta_comeUp 1 none 0 0 0 [.ref a] M Q := by
  refine ct_of (by decide) (Nat.le_of_ble_eq_true rfl) (fun G A => ?_)
  refine jj_aload_n 0 dd_Ta_comeUp_0 rfl ?_
  refine jj_iconst (v := 1) dd_Ta_comeUp_1 rfl ?_
  refine jj_puti dd_Ta_comeUp_2 (Or.inl ⟨ff_Ta_9, rfl⟩) hk (fun _ => rfl) ⟨rfl, rfl⟩ ?_
  refine jj_aload_n 0 dd_Ta_comeUp_5 rfl ?_
  refine jj_iconst (v := 0) dd_Ta_comeUp_6 rfl ?_
  refine jj_puti dd_Ta_comeUp_7 (Or.inl ⟨ff_Ta_25, rfl⟩) hk (fun _ => rfl) ⟨rfl, rfl⟩ ?_
  refine jj_vret dd_Ta_comeUp_10 rfl ?_
  exact hQ
set_option maxRecDepth 20000 in
theorem ct_Ta_answer {l : Launch} {M : mm_M} {Q : Option Value → mm_M → Prop} {a : Nat} {x : Int32} (hk : mm_k M a = some (.inl 2)) (hQ : Q (some (.int (if x = 0 then mm_i M a 2 else if x = 1 then (if mm_i M a 0 = 0 then -1 else mm_i M a 1) else if x = 2 then mm_i M a 3 else -1))) M) : ct_ l yy_Ta_answer bb_Ta_answer 2 (some .int) 0 0 0 [.ref a, .int x] M Q := by
  refine ct_of (by decide) (Nat.le_of_ble_eq_true rfl) (fun G A => ?_)
  refine jj_iload_n 1 dd_Ta_answer_0 rfl ?_
  refine mm_sw3 (x := x) (fun h1 => ?_) (fun h1 => ?_) (fun h1 => ?_) (fun h1 => ?_)
  · skip
    refine jj_tableOut (tgt := 54) dd_Ta_answer_1 h1 (by decide) ?_
    refine jj_iconst (v := (-1)) dd_Ta_answer_54 rfl ?_
    refine jj_iret dd_Ta_answer_55 rfl rfl ?_
    rw [if_neg (mm_out h1 (by decide) (by decide)), if_neg (mm_out h1 (by decide) (by decide)), if_neg (mm_out h1 (by decide) (by decide))] at hQ
    exact hQ
  · skip
    subst h1
    refine jj_tableIn (tgt := 28) dd_Ta_answer_1 (by decide) (by decide) rfl (by decide) ?_
    refine jj_aload_n 0 dd_Ta_answer_28 rfl ?_
    refine jj_geti dd_Ta_answer_29 ff_Ta_19 hk (fun _ => rfl) ?_
    refine jj_iret dd_Ta_answer_32 rfl rfl ?_
    exact hQ
  · skip
    subst h1
    refine jj_tableIn (tgt := 33) dd_Ta_answer_1 (by decide) (by decide) rfl (by decide) ?_
    refine jj_aload_n 0 dd_Ta_answer_33 rfl ?_
    refine jj_geti dd_Ta_answer_34 ff_Ta_9 hk (fun _ => rfl) ?_
    refine jj_if_eq (tgt := 47) dd_Ta_answer_37 (by decide) (fun h37 => ?_) (fun h37 => ?_)
    · skip
      refine jj_iconst (v := (-1)) dd_Ta_answer_47 rfl ?_
      refine jj_iret dd_Ta_answer_48 rfl rfl ?_
      simpa [h37, mm_ret] using hQ
    · skip
      refine jj_aload_n 0 dd_Ta_answer_40 rfl ?_
      refine jj_geti dd_Ta_answer_41 ff_Ta_15 hk (fun _ => rfl) ?_
      refine jj_goto (tgt := 48) dd_Ta_answer_44 (by decide) ?_
      refine jj_iret dd_Ta_answer_48 rfl rfl ?_
      simpa [h37, mm_ret] using hQ
  · skip
    subst h1
    refine jj_tableIn (tgt := 49) dd_Ta_answer_1 (by decide) (by decide) rfl (by decide) ?_
    refine jj_aload_n 0 dd_Ta_answer_49 rfl ?_
    refine jj_geti dd_Ta_answer_50 ff_Ta_22 hk (fun _ => rfl) ?_
    refine jj_iret dd_Ta_answer_53 rfl rfl ?_
    exact hQ
set_option maxRecDepth 20000 in
theorem ct_Ve_init {l : Launch} {M : mm_M} {Q : Option Value → mm_M → Prop} {a : Nat} {x0 x1 x2 x3 : Int32} (hk : mm_k M a = some (.inl 5)) (hQ : Q none (mm_si (mm_si (mm_si (mm_si (mm_sr M a 4 none) a 0 x0) a 1 x1) a 2 x2) a 3 x3)) : ct_ l yy_Ve_init bb_Ve_init 5 none 1 0 0 [.ref a, .int x0, .int x1, .int x2, .int x3] M Q := by
  refine ct_of (by decide) (Nat.le_of_ble_eq_true rfl) (fun G A => ?_)
  refine jj_aload_n 0 dd_Ve_init_0 rfl ?_
  refine jj_objI dd_Ve_init_1 oi_Ve_3 (Nat.le_of_ble_eq_true rfl) (Nat.le_of_ble_eq_true rfl) ?_
  refine jj_aload_n 0 dd_Ve_init_4 rfl ?_
  refine jj_null dd_Ve_init_5 ?_
  refine jj_putr none dd_Ve_init_6 (Or.inl ⟨ff_Ve_9, rfl⟩) hk (fun _ => rfl) (mm_nr rfl) ?_
  refine jj_aload_n 0 dd_Ve_init_9 rfl ?_
  refine jj_iload_n 1 dd_Ve_init_10 rfl ?_
  refine jj_puti dd_Ve_init_11 (Or.inr ⟨fg_Ve_15, rfl⟩) hk (fun _ => rfl) ⟨rfl, rfl⟩ ?_
  refine jj_aload_n 0 dd_Ve_init_14 rfl ?_
  refine jj_iload_n 2 dd_Ve_init_15 rfl ?_
  refine jj_puti dd_Ve_init_16 (Or.inr ⟨fg_Ve_19, rfl⟩) hk (fun _ => rfl) ⟨rfl, rfl⟩ ?_
  refine jj_aload_n 0 dd_Ve_init_19 rfl ?_
  refine jj_iload_n 3 dd_Ve_init_20 rfl ?_
  refine jj_puti dd_Ve_init_21 (Or.inr ⟨fg_Ve_22, rfl⟩) hk (fun _ => rfl) ⟨rfl, rfl⟩ ?_
  refine jj_aload_n 0 dd_Ve_init_24 rfl ?_
  refine jj_iload 4 dd_Ve_init_25 rfl ?_
  refine jj_puti dd_Ve_init_27 (Or.inr ⟨fg_Ve_25, rfl⟩) hk (fun _ => rfl) ⟨rfl, rfl⟩ ?_
  refine jj_vret dd_Ve_init_30 rfl ?_
  exact hQ
set_option maxRecDepth 20000 in
theorem ct_Ve_answer {l : Launch} {M : mm_M} {Q : Option Value → mm_M → Prop} {a : Nat} {x : Int32} (hk : mm_k M a = some (.inl 5)) (hQ : Q (some (.int (if x = 0 then mm_i M a 0 else if x = 1 then mm_i M a 1 else if x = 2 then mm_i M a 2 else if x = 3 then mm_i M a 3 else -1))) M) : ct_ l yy_Ve_answer bb_Ve_answer 2 (some .int) 0 0 0 [.ref a, .int x] M Q := by
  refine ct_of (by decide) (Nat.le_of_ble_eq_true rfl) (fun G A => ?_)
  refine jj_iload_n 1 dd_Ve_answer_0 rfl ?_
  refine mm_sw4 (x := x) (fun h1 => ?_) (fun h1 => ?_) (fun h1 => ?_) (fun h1 => ?_) (fun h1 => ?_)
  · skip
    refine jj_tableOut (tgt := 52) dd_Ve_answer_1 h1 (by decide) ?_
    refine jj_iconst (v := (-1)) dd_Ve_answer_52 rfl ?_
    refine jj_iret dd_Ve_answer_53 rfl rfl ?_
    rw [if_neg (mm_out h1 (by decide) (by decide)), if_neg (mm_out h1 (by decide) (by decide)), if_neg (mm_out h1 (by decide) (by decide)), if_neg (mm_out h1 (by decide) (by decide))] at hQ
    exact hQ
  · skip
    subst h1
    refine jj_tableIn (tgt := 32) dd_Ve_answer_1 (by decide) (by decide) rfl (by decide) ?_
    refine jj_aload_n 0 dd_Ve_answer_32 rfl ?_
    refine jj_geti dd_Ve_answer_33 ff_Ve_15 hk (fun _ => rfl) ?_
    refine jj_iret dd_Ve_answer_36 rfl rfl ?_
    exact hQ
  · skip
    subst h1
    refine jj_tableIn (tgt := 37) dd_Ve_answer_1 (by decide) (by decide) rfl (by decide) ?_
    refine jj_aload_n 0 dd_Ve_answer_37 rfl ?_
    refine jj_geti dd_Ve_answer_38 ff_Ve_19 hk (fun _ => rfl) ?_
    refine jj_iret dd_Ve_answer_41 rfl rfl ?_
    exact hQ
  · skip
    subst h1
    refine jj_tableIn (tgt := 42) dd_Ve_answer_1 (by decide) (by decide) rfl (by decide) ?_
    refine jj_aload_n 0 dd_Ve_answer_42 rfl ?_
    refine jj_geti dd_Ve_answer_43 ff_Ve_22 hk (fun _ => rfl) ?_
    refine jj_iret dd_Ve_answer_46 rfl rfl ?_
    exact hQ
  · skip
    subst h1
    refine jj_tableIn (tgt := 47) dd_Ve_answer_1 (by decide) (by decide) rfl (by decide) ?_
    refine jj_aload_n 0 dd_Ve_answer_47 rfl ?_
    refine jj_geti dd_Ve_answer_48 ff_Ve_25 hk (fun _ => rfl) ?_
    refine jj_iret dd_Ve_answer_51 rfl rfl ?_
    exact hQ
set_option maxRecDepth 20000 in
theorem ct_Lo_init {l : Launch} {M : mm_M} {Q : Option Value → mm_M → Prop} {a : Nat} {x0 x1 x2 x3 x4 x5 : Int32} (hk : mm_k M a = some (.inl 4)) (hb : x4 = 0 ∨ x4 = 1) (hQ : Q none (mm_si (mm_si (mm_si (mm_si (mm_si (mm_si M a 0 x0) a 1 x1) a 2 x2) a 3 x3) a 4 x4) a 5 x5)) : ct_ l yy_Lo_init bb_Lo_init 7 none 1 0 0 [.ref a, .int x0, .int x1, .int x2, .int x3, .int x4, .int x5] M Q := by
  refine ct_of (by decide) (Nat.le_of_ble_eq_true rfl) (fun G A => ?_)
  refine jj_aload_n 0 dd_Lo_init_0 rfl ?_
  refine jj_objI dd_Lo_init_1 oi_Lo_3 (Nat.le_of_ble_eq_true rfl) (Nat.le_of_ble_eq_true rfl) ?_
  refine jj_aload_n 0 dd_Lo_init_4 rfl ?_
  refine jj_iload_n 1 dd_Lo_init_5 rfl ?_
  refine jj_puti dd_Lo_init_6 (Or.inr ⟨fg_Lo_9, rfl⟩) hk (fun _ => rfl) ⟨rfl, rfl⟩ ?_
  refine jj_aload_n 0 dd_Lo_init_9 rfl ?_
  refine jj_iload_n 2 dd_Lo_init_10 rfl ?_
  refine jj_puti dd_Lo_init_11 (Or.inr ⟨fg_Lo_15, rfl⟩) hk (fun _ => rfl) ⟨rfl, rfl⟩ ?_
  refine jj_aload_n 0 dd_Lo_init_14 rfl ?_
  refine jj_iload_n 3 dd_Lo_init_15 rfl ?_
  refine jj_puti dd_Lo_init_16 (Or.inr ⟨fg_Lo_18, rfl⟩) hk (fun _ => rfl) ⟨rfl, rfl⟩ ?_
  refine jj_aload_n 0 dd_Lo_init_19 rfl ?_
  refine jj_iload 4 dd_Lo_init_20 rfl ?_
  refine jj_puti dd_Lo_init_22 (Or.inr ⟨fg_Lo_21, rfl⟩) hk (fun _ => rfl) ⟨rfl, rfl⟩ ?_
  refine jj_aload_n 0 dd_Lo_init_25 rfl ?_
  refine jj_iload 5 dd_Lo_init_26 rfl ?_
  refine jj_puti dd_Lo_init_28 (Or.inr ⟨fg_Lo_24, rfl⟩) hk (fun _ => rfl) (mm_bl hb) ?_
  refine jj_aload_n 0 dd_Lo_init_31 rfl ?_
  refine jj_iload 6 dd_Lo_init_32 rfl ?_
  refine jj_puti dd_Lo_init_34 (Or.inr ⟨fg_Lo_28, rfl⟩) hk (fun _ => rfl) ⟨rfl, rfl⟩ ?_
  refine jj_vret dd_Lo_init_37 rfl ?_
  exact hQ
set_option maxRecDepth 20000 in
theorem ct_Lo_answer {l : Launch} {M : mm_M} {Q : Option Value → mm_M → Prop} {a : Nat} {x : Int32} (hk : mm_k M a = some (.inl 4)) (hQ : Q (some (.int (if x = 0 then mm_i M a 0 else if x = 1 then mm_i M a 1 else if x = 2 then mm_i M a 2 else if x = 3 then mm_i M a 3 else if x = 5 then mm_i M a 5 else -1))) M) : ct_ l yy_Lo_answer bb_Lo_answer 2 (some .int) 0 0 0 [.ref a, .int x] M Q := by
  refine ct_of (by decide) (Nat.le_of_ble_eq_true rfl) (fun G A => ?_)
  refine jj_iload_n 1 dd_Lo_answer_0 rfl ?_
  refine mm_sw6 (x := x) (fun h1 => ?_) (fun h1 => ?_) (fun h1 => ?_) (fun h1 => ?_) (fun h1 => ?_) (fun h1 => ?_) (fun h1 => ?_)
  · skip
    refine jj_tableOut (tgt := 65) dd_Lo_answer_1 h1 (by decide) ?_
    refine jj_iconst (v := (-1)) dd_Lo_answer_65 rfl ?_
    refine jj_iret dd_Lo_answer_66 rfl rfl ?_
    rw [if_neg (mm_out h1 (by decide) (by decide)), if_neg (mm_out h1 (by decide) (by decide)), if_neg (mm_out h1 (by decide) (by decide)), if_neg (mm_out h1 (by decide) (by decide)), if_neg (mm_out h1 (by decide) (by decide))] at hQ
    exact hQ
  · skip
    subst h1
    refine jj_tableIn (tgt := 40) dd_Lo_answer_1 (by decide) (by decide) rfl (by decide) ?_
    refine jj_aload_n 0 dd_Lo_answer_40 rfl ?_
    refine jj_geti dd_Lo_answer_41 ff_Lo_9 hk (fun _ => rfl) ?_
    refine jj_iret dd_Lo_answer_44 rfl rfl ?_
    exact hQ
  · skip
    subst h1
    refine jj_tableIn (tgt := 45) dd_Lo_answer_1 (by decide) (by decide) rfl (by decide) ?_
    refine jj_aload_n 0 dd_Lo_answer_45 rfl ?_
    refine jj_geti dd_Lo_answer_46 ff_Lo_15 hk (fun _ => rfl) ?_
    refine jj_iret dd_Lo_answer_49 rfl rfl ?_
    exact hQ
  · skip
    subst h1
    refine jj_tableIn (tgt := 50) dd_Lo_answer_1 (by decide) (by decide) rfl (by decide) ?_
    refine jj_aload_n 0 dd_Lo_answer_50 rfl ?_
    refine jj_geti dd_Lo_answer_51 ff_Lo_18 hk (fun _ => rfl) ?_
    refine jj_iret dd_Lo_answer_54 rfl rfl ?_
    exact hQ
  · skip
    subst h1
    refine jj_tableIn (tgt := 55) dd_Lo_answer_1 (by decide) (by decide) rfl (by decide) ?_
    refine jj_aload_n 0 dd_Lo_answer_55 rfl ?_
    refine jj_geti dd_Lo_answer_56 ff_Lo_21 hk (fun _ => rfl) ?_
    refine jj_iret dd_Lo_answer_59 rfl rfl ?_
    exact hQ
  · skip
    subst h1
    refine jj_tableIn (tgt := 65) dd_Lo_answer_1 (by decide) (by decide) rfl (by decide) ?_
    refine jj_iconst (v := (-1)) dd_Lo_answer_65 rfl ?_
    refine jj_iret dd_Lo_answer_66 rfl rfl ?_
    exact hQ
  · skip
    subst h1
    refine jj_tableIn (tgt := 60) dd_Lo_answer_1 (by decide) (by decide) rfl (by decide) ?_
    refine jj_aload_n 0 dd_Lo_answer_60 rfl ?_
    refine jj_geti dd_Lo_answer_61 ff_Lo_28 hk (fun _ => rfl) ?_
    refine jj_iret dd_Lo_answer_64 rfl rfl ?_
    exact hQ
set_option maxRecDepth 20000 in
theorem ct_Tr_startAt {l : Launch} {M : mm_M} {Q : Option Value → mm_M → Prop} {a : Nat} {x : Int32} (hk : mm_k M a = some (.inl 6)) (hQ : Q none (mm_si (mm_si M a 2 1) a 4 x)) : ct_ l yy_Tr_startAt bb_Tr_startAt 2 none 0 0 0 [.ref a, .int x] M Q := by
  refine ct_of (by decide) (Nat.le_of_ble_eq_true rfl) (fun G A => ?_)
  refine jj_aload_n 0 dd_Tr_startAt_0 rfl ?_
  refine jj_iconst (v := 1) dd_Tr_startAt_1 rfl ?_
  refine jj_puti dd_Tr_startAt_2 (Or.inl ⟨ff_Tr_9, rfl⟩) hk (fun _ => rfl) ⟨rfl, rfl⟩ ?_
  refine jj_aload_n 0 dd_Tr_startAt_5 rfl ?_
  refine jj_iload_n 1 dd_Tr_startAt_6 rfl ?_
  refine jj_puti dd_Tr_startAt_7 (Or.inl ⟨ff_Tr_18, rfl⟩) hk (fun _ => rfl) ⟨rfl, rfl⟩ ?_
  refine jj_vret dd_Tr_startAt_10 rfl ?_
  exact hQ
def tr_end (M : mm_M) (a : Nat) : mm_M := mm_si (mm_si (mm_si (mm_si (mm_si (mm_si (mm_si (mm_si (mm_si M a 2 0) a 3 0) a 4 0) a 5 0) a 6 0) a 7 0) a 8 0) a 9 0) a 10 0
set_option maxRecDepth 20000 in
theorem ct_Tr_end {l : Launch} {M : mm_M} {Q : Option Value → mm_M → Prop} {a : Nat} (hk : mm_k M a = some (.inl 6)) (hQ : Q none (tr_end M a)) : ct_ l yy_Tr_end bb_Tr_end 1 none 0 0 0 [.ref a] M Q := by
  refine ct_of (by decide) (Nat.le_of_ble_eq_true rfl) (fun G A => ?_)
  refine jj_aload_n 0 dd_Tr_end_0 rfl ?_
  refine jj_iconst (v := 0) dd_Tr_end_1 rfl ?_
  refine jj_puti dd_Tr_end_2 (Or.inl ⟨ff_Tr_9, rfl⟩) hk (fun _ => rfl) ⟨rfl, rfl⟩ ?_
  refine jj_aload_n 0 dd_Tr_end_5 rfl ?_
  refine jj_iconst (v := 0) dd_Tr_end_6 rfl ?_
  refine jj_puti dd_Tr_end_7 (Or.inl ⟨ff_Tr_15, rfl⟩) hk (fun _ => rfl) ⟨rfl, rfl⟩ ?_
  refine jj_aload_n 0 dd_Tr_end_10 rfl ?_
  refine jj_iconst (v := 0) dd_Tr_end_11 rfl ?_
  refine jj_puti dd_Tr_end_12 (Or.inl ⟨ff_Tr_18, rfl⟩) hk (fun _ => rfl) ⟨rfl, rfl⟩ ?_
  refine jj_aload_n 0 dd_Tr_end_15 rfl ?_
  refine jj_iconst (v := 0) dd_Tr_end_16 rfl ?_
  refine jj_puti dd_Tr_end_17 (Or.inl ⟨ff_Tr_22, rfl⟩) hk (fun _ => rfl) ⟨rfl, rfl⟩ ?_
  refine jj_aload_n 0 dd_Tr_end_20 rfl ?_
  refine jj_iconst (v := 0) dd_Tr_end_21 rfl ?_
  refine jj_puti dd_Tr_end_22 (Or.inl ⟨ff_Tr_25, rfl⟩) hk (fun _ => rfl) ⟨rfl, rfl⟩ ?_
  refine jj_aload_n 0 dd_Tr_end_25 rfl ?_
  refine jj_iconst (v := 0) dd_Tr_end_26 rfl ?_
  refine jj_puti dd_Tr_end_27 (Or.inl ⟨ff_Tr_28, rfl⟩) hk (fun _ => rfl) ⟨rfl, rfl⟩ ?_
  refine jj_aload_n 0 dd_Tr_end_30 rfl ?_
  refine jj_iconst (v := 0) dd_Tr_end_31 rfl ?_
  refine jj_puti dd_Tr_end_32 (Or.inl ⟨ff_Tr_31, rfl⟩) hk (fun _ => rfl) ⟨rfl, rfl⟩ ?_
  refine jj_aload_n 0 dd_Tr_end_35 rfl ?_
  refine jj_iconst (v := 0) dd_Tr_end_36 rfl ?_
  refine jj_puti dd_Tr_end_37 (Or.inl ⟨ff_Tr_34, rfl⟩) hk (fun _ => rfl) ⟨rfl, rfl⟩ ?_
  refine jj_aload_n 0 dd_Tr_end_40 rfl ?_
  refine jj_iconst (v := 0) dd_Tr_end_41 rfl ?_
  refine jj_puti dd_Tr_end_42 (Or.inl ⟨ff_Tr_37, rfl⟩) hk (fun _ => rfl) ⟨rfl, rfl⟩ ?_
  refine jj_vret dd_Tr_end_45 rfl ?_
  exact hQ
set_option maxRecDepth 20000 in
theorem ct_Tr_writes {l : Launch} {M : mm_M} {Q : Option Value → mm_M → Prop} {a : Nat} {x : Int32} (hk : mm_k M a = some (.inl 6)) (hQ : Q (some (.int (if (mm_i M a 6 >>> (x &&& 31)) &&& 1 = 1 then 1 else 0))) M) : ct_ l yy_Tr_writes bb_Tr_writes 2 (some .boolean) 0 0 0 [.ref a, .int x] M Q := by
  refine ct_of (by decide) (Nat.le_of_ble_eq_true rfl) (fun G A => ?_)
  refine jj_aload_n 0 dd_Tr_writes_0 rfl ?_
  refine jj_geti dd_Tr_writes_1 ff_Tr_25 hk (fun _ => rfl) ?_
  refine jj_iload_n 1 dd_Tr_writes_4 rfl ?_
  refine jj_ishr dd_Tr_writes_5 ?_
  refine jj_iconst (v := 1) dd_Tr_writes_6 rfl ?_
  refine jj_iand dd_Tr_writes_7 ?_
  refine jj_iconst (v := 1) dd_Tr_writes_8 rfl ?_
  refine jj_icmp_ne (tgt := 16) dd_Tr_writes_9 (by decide) (fun h9 => ?_) (fun h9 => ?_)
  · skip
    refine jj_iconst (v := 0) dd_Tr_writes_16 rfl ?_
    refine jj_iret dd_Tr_writes_17 rfl rfl ?_
    simpa [h9, mm_ret] using hQ
  · skip
    refine jj_iconst (v := 1) dd_Tr_writes_12 rfl ?_
    refine jj_goto (tgt := 17) dd_Tr_writes_13 (by decide) ?_
    refine jj_iret dd_Tr_writes_17 rfl rfl ?_
    simpa [h9, mm_ret] using hQ
set_option maxRecDepth 20000 in
theorem ct_Tr_erases {l : Launch} {M : mm_M} {Q : Option Value → mm_M → Prop} {a : Nat} {x : Int32} (hk : mm_k M a = some (.inl 6)) (hQ : Q (some (.int (if (mm_i M a 7 >>> (x &&& 31)) &&& 1 = 1 then 1 else 0))) M) : ct_ l yy_Tr_erases bb_Tr_erases 2 (some .boolean) 0 0 0 [.ref a, .int x] M Q := by
  refine ct_of (by decide) (Nat.le_of_ble_eq_true rfl) (fun G A => ?_)
  refine jj_aload_n 0 dd_Tr_erases_0 rfl ?_
  refine jj_geti dd_Tr_erases_1 ff_Tr_28 hk (fun _ => rfl) ?_
  refine jj_iload_n 1 dd_Tr_erases_4 rfl ?_
  refine jj_ishr dd_Tr_erases_5 ?_
  refine jj_iconst (v := 1) dd_Tr_erases_6 rfl ?_
  refine jj_iand dd_Tr_erases_7 ?_
  refine jj_iconst (v := 1) dd_Tr_erases_8 rfl ?_
  refine jj_icmp_ne (tgt := 16) dd_Tr_erases_9 (by decide) (fun h9 => ?_) (fun h9 => ?_)
  · skip
    refine jj_iconst (v := 0) dd_Tr_erases_16 rfl ?_
    refine jj_iret dd_Tr_erases_17 rfl rfl ?_
    simpa [h9, mm_ret] using hQ
  · skip
    refine jj_iconst (v := 1) dd_Tr_erases_12 rfl ?_
    refine jj_goto (tgt := 17) dd_Tr_erases_13 (by decide) ?_
    refine jj_iret dd_Tr_erases_17 rfl rfl ?_
    simpa [h9, mm_ret] using hQ
set_option maxRecDepth 20000 in
theorem ct_Tr_willPut {l : Launch} {M : mm_M} {Q : Option Value → mm_M → Prop} {a v : Nat} {x y : Int32} (hk : mm_k M a = some (.inl 6)) (hv : mm_r M a 1 = some v) (hkv : mm_k M v = some (.inr (0, 12))) (hx : vp_in x 12) (hQ : Q none (mm_si (mm_si (mm_si M a 6 (mm_i M a 6 ||| ((1 : Int32) <<< (x &&& 31)))) a 7 (mm_i M a 7 &&& (((1 : Int32) <<< (x &&& 31)) ^^^ (-1)))) v x.toNatClampNeg y)) : ct_ l yy_Tr_willPut bb_Tr_willPut 3 none 0 0 0 [.ref a, .int x, .int y] M Q := by
  refine ct_of (by decide) (Nat.le_of_ble_eq_true rfl) (fun G A => ?_)
  refine jj_aload_n 0 dd_Tr_willPut_0 rfl ?_
  refine jj_dup dd_Tr_willPut_1 rfl ?_
  refine jj_geti dd_Tr_willPut_2 ff_Tr_25 hk (fun _ => rfl) ?_
  refine jj_iconst (v := 1) dd_Tr_willPut_5 rfl ?_
  refine jj_iload_n 1 dd_Tr_willPut_6 rfl ?_
  refine jj_ishl dd_Tr_willPut_7 ?_
  refine jj_ior dd_Tr_willPut_8 ?_
  refine jj_puti dd_Tr_willPut_9 (Or.inl ⟨ff_Tr_25, rfl⟩) hk (fun _ => rfl) ⟨rfl, rfl⟩ ?_
  refine jj_aload_n 0 dd_Tr_willPut_12 rfl ?_
  refine jj_dup dd_Tr_willPut_13 rfl ?_
  refine jj_geti dd_Tr_willPut_14 ff_Tr_28 hk (fun _ => rfl) ?_
  refine jj_iconst (v := 1) dd_Tr_willPut_17 rfl ?_
  refine jj_iload_n 1 dd_Tr_willPut_18 rfl ?_
  refine jj_ishl dd_Tr_willPut_19 ?_
  refine jj_iconst (v := (-1)) dd_Tr_willPut_20 rfl ?_
  refine jj_ixor dd_Tr_willPut_21 ?_
  refine jj_iand dd_Tr_willPut_22 ?_
  refine jj_puti dd_Tr_willPut_23 (Or.inl ⟨ff_Tr_28, rfl⟩) hk (fun _ => rfl) ⟨rfl, rfl⟩ ?_
  refine jj_aload_n 0 dd_Tr_willPut_26 rfl ?_
  refine jj_getr dd_Tr_willPut_27 ff_Tr_43 hk (fun _ => rfl) (some v) hv ?_
  refine jj_iload_n 1 dd_Tr_willPut_30 rfl ?_
  refine jj_iload_n 2 dd_Tr_willPut_31 rfl ?_
  refine jj_iast dd_Tr_willPut_32 hkv hx ?_
  refine jj_vret dd_Tr_willPut_33 rfl ?_
  simpa [mm_ret, mm_k_si, mm_k_sr, mm_i_si, mm_i_sr, mm_r_si, mm_r_sr, mm_si_self] using hQ
set_option maxRecDepth 20000 in
theorem ct_Tr_willErase {l : Launch} {M : mm_M} {Q : Option Value → mm_M → Prop} {a v : Nat} {x : Int32} (hk : mm_k M a = some (.inl 6)) (hv : mm_r M a 1 = some v) (hkv : mm_k M v = some (.inr (0, 12))) (hx : vp_in x 12) (hQ : Q none (mm_si (mm_si (mm_si M a 6 (mm_i M a 6 ||| ((1 : Int32) <<< (x &&& 31)))) a 7 (mm_i M a 7 ||| ((1 : Int32) <<< (x &&& 31)))) v x.toNatClampNeg 0)) : ct_ l yy_Tr_willErase bb_Tr_willErase 2 none 0 0 0 [.ref a, .int x] M Q := by
  refine ct_of (by decide) (Nat.le_of_ble_eq_true rfl) (fun G A => ?_)
  refine jj_aload_n 0 dd_Tr_willErase_0 rfl ?_
  refine jj_dup dd_Tr_willErase_1 rfl ?_
  refine jj_geti dd_Tr_willErase_2 ff_Tr_25 hk (fun _ => rfl) ?_
  refine jj_iconst (v := 1) dd_Tr_willErase_5 rfl ?_
  refine jj_iload_n 1 dd_Tr_willErase_6 rfl ?_
  refine jj_ishl dd_Tr_willErase_7 ?_
  refine jj_ior dd_Tr_willErase_8 ?_
  refine jj_puti dd_Tr_willErase_9 (Or.inl ⟨ff_Tr_25, rfl⟩) hk (fun _ => rfl) ⟨rfl, rfl⟩ ?_
  refine jj_aload_n 0 dd_Tr_willErase_12 rfl ?_
  refine jj_dup dd_Tr_willErase_13 rfl ?_
  refine jj_geti dd_Tr_willErase_14 ff_Tr_28 hk (fun _ => rfl) ?_
  refine jj_iconst (v := 1) dd_Tr_willErase_17 rfl ?_
  refine jj_iload_n 1 dd_Tr_willErase_18 rfl ?_
  refine jj_ishl dd_Tr_willErase_19 ?_
  refine jj_ior dd_Tr_willErase_20 ?_
  refine jj_puti dd_Tr_willErase_21 (Or.inl ⟨ff_Tr_28, rfl⟩) hk (fun _ => rfl) ⟨rfl, rfl⟩ ?_
  refine jj_aload_n 0 dd_Tr_willErase_24 rfl ?_
  refine jj_getr dd_Tr_willErase_25 ff_Tr_43 hk (fun _ => rfl) (some v) hv ?_
  refine jj_iload_n 1 dd_Tr_willErase_28 rfl ?_
  refine jj_iconst (v := 0) dd_Tr_willErase_29 rfl ?_
  refine jj_iast dd_Tr_willErase_30 hkv hx ?_
  refine jj_vret dd_Tr_willErase_31 rfl ?_
  simpa [mm_ret, mm_k_si, mm_k_sr, mm_i_si, mm_i_sr, mm_r_si, mm_r_sr, mm_si_self] using hQ
set_option maxRecDepth 20000 in
theorem ct_TC_asNumber {l : Launch} {M : mm_M} {Q : Option Value → mm_M → Prop} {x : Int32} (hQ : Q (some (.int (if x = 0 then 0 else 1))) M) : ct_ l yy_TC_asNumber bb_TC_asNumber 1 (some .int) 0 0 0 [.int x] M Q := by
  refine ct_of (by decide) (Nat.le_of_ble_eq_true rfl) (fun G A => ?_)
  refine jj_iload_n 0 dd_TC_asNumber_0 rfl ?_
  refine jj_if_eq (tgt := 8) dd_TC_asNumber_1 (by decide) (fun h1 => ?_) (fun h1 => ?_)
  · skip
    refine jj_iconst (v := 0) dd_TC_asNumber_8 rfl ?_
    refine jj_iret dd_TC_asNumber_9 rfl rfl ?_
    simpa [h1, mm_ret] using hQ
  · skip
    refine jj_iconst (v := 1) dd_TC_asNumber_4 rfl ?_
    refine jj_goto (tgt := 9) dd_TC_asNumber_5 (by decide) ?_
    refine jj_iret dd_TC_asNumber_9 rfl rfl ?_
    simpa [h1, mm_ret] using hQ
set_option maxRecDepth 20000 in
theorem ct_TC_isClient {l : Launch} {M : mm_M} {Q : Option Value → mm_M → Prop} {x : Int32} (hQ0 : ¬ vp_in x 4 → Q (some (.int 0)) M) (hQ : vp_in x 4 → Q (some (.int 1)) M) : ct_ l yy_TC_isClient bb_TC_isClient 1 (some .boolean) 0 0 0 [.int x] M Q := by
  refine ct_of (by decide) (Nat.le_of_ble_eq_true rfl) (fun G A => ?_)
  refine jj_iload_n 0 dd_TC_isClient_0 rfl ?_
  refine jj_if_lt (tgt := 13) dd_TC_isClient_1 (by decide) (fun h1 => ?_) (fun h1 => ?_)
  · skip
    refine jj_iconst (v := 0) dd_TC_isClient_13 rfl ?_
    refine jj_iret dd_TC_isClient_14 rfl rfl ?_
    exact hQ0 (mm_vlt h1)
  · skip
    refine jj_iload_n 0 dd_TC_isClient_4 rfl ?_
    refine jj_iconst (v := 4) dd_TC_isClient_5 rfl ?_
    refine jj_icmp_ge (tgt := 13) dd_TC_isClient_6 (by decide) (fun h6 => ?_) (fun h6 => ?_)
    · skip
      refine jj_iconst (v := 0) dd_TC_isClient_13 rfl ?_
      refine jj_iret dd_TC_isClient_14 rfl rfl ?_
      exact hQ0 (mm_vge (n := 4) h6 (by decide))
    · skip
      refine jj_iconst (v := 1) dd_TC_isClient_9 rfl ?_
      refine jj_goto (tgt := 14) dd_TC_isClient_10 (by decide) ?_
      refine jj_iret dd_TC_isClient_14 rfl rfl ?_
      exact hQ (mm_vin (n := 4) h1 h6 (by decide))
set_option maxRecDepth 20000 in
theorem ct_TC_isCell {l : Launch} {M : mm_M} {Q : Option Value → mm_M → Prop} {x : Int32} (hQ0 : ¬ vp_in x 12 → Q (some (.int 0)) M) (hQ : vp_in x 12 → Q (some (.int 1)) M) : ct_ l yy_TC_isCell bb_TC_isCell 1 (some .boolean) 0 0 0 [.int x] M Q := by
  refine ct_of (by decide) (Nat.le_of_ble_eq_true rfl) (fun G A => ?_)
  refine jj_iload_n 0 dd_TC_isCell_0 rfl ?_
  refine jj_if_lt (tgt := 14) dd_TC_isCell_1 (by decide) (fun h1 => ?_) (fun h1 => ?_)
  · skip
    refine jj_iconst (v := 0) dd_TC_isCell_14 rfl ?_
    refine jj_iret dd_TC_isCell_15 rfl rfl ?_
    exact hQ0 (mm_vlt h1)
  · skip
    refine jj_iload_n 0 dd_TC_isCell_4 rfl ?_
    refine jj_bipush (v := 12) dd_TC_isCell_5 rfl ?_
    refine jj_icmp_ge (tgt := 14) dd_TC_isCell_7 (by decide) (fun h7 => ?_) (fun h7 => ?_)
    · skip
      refine jj_iconst (v := 0) dd_TC_isCell_14 rfl ?_
      refine jj_iret dd_TC_isCell_15 rfl rfl ?_
      exact hQ0 (mm_vge (n := 12) h7 (by decide))
    · skip
      refine jj_iconst (v := 1) dd_TC_isCell_10 rfl ?_
      refine jj_goto (tgt := 15) dd_TC_isCell_11 (by decide) ?_
      refine jj_iret dd_TC_isCell_15 rfl rfl ?_
      exact hQ (mm_vin (n := 12) h1 h7 (by decide))
set_option maxRecDepth 20000 in
theorem ct_TC_isTablet {l : Launch} {M : mm_M} {Q : Option Value → mm_M → Prop} {x : Int32} (hQ0 : ¬ vp_in x 3 → Q (some (.int 0)) M) (hQ : vp_in x 3 → Q (some (.int 1)) M) : ct_ l yy_TC_isTablet bb_TC_isTablet 1 (some .boolean) 0 0 0 [.int x] M Q := by
  refine ct_of (by decide) (Nat.le_of_ble_eq_true rfl) (fun G A => ?_)
  refine jj_iload_n 0 dd_TC_isTablet_0 rfl ?_
  refine jj_if_lt (tgt := 13) dd_TC_isTablet_1 (by decide) (fun h1 => ?_) (fun h1 => ?_)
  · skip
    refine jj_iconst (v := 0) dd_TC_isTablet_13 rfl ?_
    refine jj_iret dd_TC_isTablet_14 rfl rfl ?_
    exact hQ0 (mm_vlt h1)
  · skip
    refine jj_iload_n 0 dd_TC_isTablet_4 rfl ?_
    refine jj_iconst (v := 3) dd_TC_isTablet_5 rfl ?_
    refine jj_icmp_ge (tgt := 13) dd_TC_isTablet_6 (by decide) (fun h6 => ?_) (fun h6 => ?_)
    · skip
      refine jj_iconst (v := 0) dd_TC_isTablet_13 rfl ?_
      refine jj_iret dd_TC_isTablet_14 rfl rfl ?_
      exact hQ0 (mm_vge (n := 3) h6 (by decide))
    · skip
      refine jj_iconst (v := 1) dd_TC_isTablet_9 rfl ?_
      refine jj_goto (tgt := 14) dd_TC_isTablet_10 (by decide) ?_
      refine jj_iret dd_TC_isTablet_14 rfl rfl ?_
      exact hQ (mm_vin (n := 3) h1 h6 (by decide))
set_option maxRecDepth 20000 in
theorem ct_TC_leastOf {l : Launch} {M : mm_M} {Q : Option Value → mm_M → Prop} {x : Int32} (hQ : ∀ c : Nat, c ≤ 11 → (∀ j, j < c → (x >>> (nI j &&& 31)) &&& 1 = 0) → (c < 11 → ¬ (x >>> (nI c &&& 31)) &&& 1 = 0) → Q (some (.int (nI c))) M) : ct_ l yy_TC_leastOf bb_TC_leastOf 2 (some .int) 0 0 0 [.int x] M Q := by
  refine ct_of (by decide) (Nat.le_of_ble_eq_true rfl) (fun G A => ?_)
  have loop : ∀ n c : Nat, c + n = 11 → (∀ j, j < c → (x >>> (nI j &&& 31)) &&& 1 = 0) → jj_ l yy_TC_leastOf bb_TC_leastOf 2 (some .int) G (mm_R 0 0 0) A (mm_ret Q) 0 0 2 [(1, .int (nI c)), (0, .int x)] [] M := by
    intro n
    induction n with
    | zero =>
      intro c hc hb
      have hc : c = 11 := by omega
      subst hc
      refine jj_iload_n 0 dd_TC_leastOf_2 rfl ?_
      refine jj_bipush (v := 11) dd_TC_leastOf_3 rfl ?_
      refine jj_icmp_ge (tgt := 22) dd_TC_leastOf_5 (by decide) (fun h5 => ?_) (fun h5 => ?_)
      · skip
        refine jj_iload_n 0 dd_TC_leastOf_22 rfl ?_
        refine jj_iret dd_TC_leastOf_23 rfl rfl ?_
        exact hQ 11 (by omega) hb (fun h => absurd h (by omega))
      · exact absurd (by decide) h5
    | succ n ih =>
      intro c hc hb
      refine jj_iload_n 0 dd_TC_leastOf_2 rfl ?_
      refine jj_bipush (v := 11) dd_TC_leastOf_3 rfl ?_
      refine jj_icmp_ge (tgt := 22) dd_TC_leastOf_5 (by decide) (fun h5 => ?_) (fun h5 => ?_)
      · exact absurd h5 (nI_ge (b := 11) (by omega) (by decide))
      · skip
        refine jj_iload_n 1 dd_TC_leastOf_8 rfl ?_
        refine jj_iload_n 0 dd_TC_leastOf_9 rfl ?_
        refine jj_ishr dd_TC_leastOf_10 ?_
        refine jj_iconst (v := 1) dd_TC_leastOf_11 rfl ?_
        refine jj_iand dd_TC_leastOf_12 ?_
        refine jj_if_ne (tgt := 22) dd_TC_leastOf_13 (by decide) (fun h13 => ?_) (fun h13 => ?_)
        · skip
          refine jj_iload_n 0 dd_TC_leastOf_22 rfl ?_
          refine jj_iret dd_TC_leastOf_23 rfl rfl ?_
          exact hQ c (by omega) hb (fun _ => h13)
        · skip
          refine jj_iinc 0 (lv' := [(1, .int (nI (c + 1))), (0, .int _)]) dd_TC_leastOf_16 rfl (nI_1 c) (Nat.le_of_ble_eq_true rfl) rfl ?_
          refine jj_goto (tgt := 2) dd_TC_leastOf_19 (by decide) ?_
          exact ih (c + 1) (by omega) (lt_s hb h13)
  refine jj_iconst (v := 0) dd_TC_leastOf_0 rfl ?_
  refine jj_istore_n (lv' := [(1, .int (0)), (0, .int _)]) dd_TC_leastOf_1 (Nat.le_of_ble_eq_true rfl) rfl ?_
  exact loop 11 0 rfl (fun j h => absurd h (Nat.not_lt_zero _))
set_option maxRecDepth 20000 in
theorem ct_Tr_primary {l : Launch} {M : mm_M} {Q : Option Value → mm_M → Prop} {a : Nat} (hk : mm_k M a = some (.inl 6)) (hQ : ∀ c : Nat, c ≤ 11 → (∀ j, j < c → (mm_i M a 6 >>> (nI j &&& 31)) &&& 1 = 0) → (c < 11 → ¬ (mm_i M a 6 >>> (nI c &&& 31)) &&& 1 = 0) → Q (some (.int (nI c))) M) : ct_ l yy_Tr_primary bb_Tr_primary 1 (some .int) 1 0 0 [.ref a] M Q := by
  refine ct_of (by decide) (Nat.le_of_ble_eq_true rfl) (fun G A => ?_)
  refine jj_aload_n 0 dd_Tr_primary_0 rfl ?_
  refine jj_geti dd_Tr_primary_1 ff_Tr_25 hk (fun _ => rfl) ?_
  refine jj_callS [_] [] 0 0 dd_Tr_primary_4 cs_Tr_58 ci_Tr_58 rfl (Nat.le_of_ble_eq_true rfl) ⟨(Nat.le_of_ble_eq_true rfl), (Nat.le_of_ble_eq_true rfl)⟩ ⟨(Nat.le_of_ble_eq_true rfl), (Nat.le_of_ble_eq_true rfl)⟩ rfl (ct_TC_leastOf (fun c hc1 hc2 hc3 => ?_))
  refine jj_iret dd_Tr_primary_7 rfl rfl ?_
  exact hQ c hc1 hc2 hc3
set_option maxRecDepth 20000 in
theorem ct_Tr_endIfAllFollowed {l : Launch} {M : mm_M} {Q : Option Value → mm_M → Prop} {a : Nat} (hk : mm_k M a = some (.inl 6)) (hQ0 : ¬ mm_i M a 9 = mm_i M a 6 → Q (some (.int 0)) M) (hQ : mm_i M a 9 = mm_i M a 6 → Q (some (.int 1)) (tr_end M a)) : ct_ l yy_Tr_endIfAllFollowed bb_Tr_endIfAllFollowed 1 (some .boolean) 1 0 0 [.ref a] M Q := by
  refine ct_of (by decide) (Nat.le_of_ble_eq_true rfl) (fun G A => ?_)
  refine jj_aload_n 0 dd_Tr_endIfAllFollowed_0 rfl ?_
  refine jj_geti dd_Tr_endIfAllFollowed_1 ff_Tr_34 hk (fun _ => rfl) ?_
  refine jj_aload_n 0 dd_Tr_endIfAllFollowed_4 rfl ?_
  refine jj_geti dd_Tr_endIfAllFollowed_5 ff_Tr_25 hk (fun _ => rfl) ?_
  refine jj_icmp_eq (tgt := 13) dd_Tr_endIfAllFollowed_8 (by decide) (fun h8 => ?_) (fun h8 => ?_)
  · skip
    refine jj_aload_n 0 dd_Tr_endIfAllFollowed_13 rfl ?_
    refine jj_callV (ci := 6) [] [] 0 0 dd_Tr_endIfAllFollowed_14 cs_Tr_71 ci_Tr_71 hk ⟨by decide, rfl⟩ rfl (Nat.le_of_ble_eq_true rfl) ⟨(Nat.le_of_ble_eq_true rfl), (Nat.le_of_ble_eq_true rfl)⟩ ⟨(Nat.le_of_ble_eq_true rfl), (Nat.le_of_ble_eq_true rfl)⟩ rfl (ct_Tr_end hk ?_)
    refine jj_iconst (v := 1) dd_Tr_endIfAllFollowed_17 rfl ?_
    refine jj_iret dd_Tr_endIfAllFollowed_18 rfl rfl ?_
    exact hQ h8
  · skip
    refine jj_iconst (v := 0) dd_Tr_endIfAllFollowed_11 rfl ?_
    refine jj_iret dd_Tr_endIfAllFollowed_12 rfl rfl ?_
    exact hQ0 h8
set_option maxRecDepth 20000 in
theorem ct_Tr_answer {l : Launch} {M : mm_M} {Q : Option Value → mm_M → Prop} {a : Nat} {x : Int32} (hk : mm_k M a = some (.inl 6)) (hQ : Q (some (.int (if x = 0 then (if mm_i M a 2 = 0 then (0 : Int32) else 1) + (if mm_i M a 3 = 0 then (0 : Int32) else 1) else if x = 1 then mm_i M a 4 else if x = 2 then mm_i M a 5 else if x = 3 then mm_i M a 6 else if x = 4 then mm_i M a 8 else if x = 5 then (if mm_i M a 10 = 0 then (0 : Int32) else 1) else -1))) M) : ct_ l yy_Tr_answer bb_Tr_answer 2 (some .int) 1 0 0 [.ref a, .int x] M Q := by
  refine ct_of (by decide) (Nat.le_of_ble_eq_true rfl) (fun G A => ?_)
  refine jj_iload_n 1 dd_Tr_answer_0 rfl ?_
  refine mm_sw6 (x := x) (fun h1 => ?_) (fun h1 => ?_) (fun h1 => ?_) (fun h1 => ?_) (fun h1 => ?_) (fun h1 => ?_) (fun h1 => ?_)
  · skip
    refine jj_tableOut (tgt := 84) dd_Tr_answer_1 h1 (by decide) ?_
    refine jj_iconst (v := (-1)) dd_Tr_answer_84 rfl ?_
    refine jj_iret dd_Tr_answer_85 rfl rfl ?_
    rw [if_neg (mm_out h1 (by decide) (by decide)), if_neg (mm_out h1 (by decide) (by decide)), if_neg (mm_out h1 (by decide) (by decide)), if_neg (mm_out h1 (by decide) (by decide)), if_neg (mm_out h1 (by decide) (by decide)), if_neg (mm_out h1 (by decide) (by decide))] at hQ
    exact hQ
  · skip
    subst h1
    refine jj_tableIn (tgt := 40) dd_Tr_answer_1 (by decide) (by decide) rfl (by decide) ?_
    refine jj_aload_n 0 dd_Tr_answer_40 rfl ?_
    refine jj_geti dd_Tr_answer_41 ff_Tr_9 hk (fun _ => rfl) ?_
    refine jj_callS [_] [] 0 0 dd_Tr_answer_44 cs_Tr_74 ci_Tr_74 rfl (Nat.le_of_ble_eq_true rfl) ⟨(Nat.le_of_ble_eq_true rfl), (Nat.le_of_ble_eq_true rfl)⟩ ⟨(Nat.le_of_ble_eq_true rfl), (Nat.le_of_ble_eq_true rfl)⟩ rfl (ct_TC_asNumber ?_)
    refine jj_aload_n 0 dd_Tr_answer_47 rfl ?_
    refine jj_geti dd_Tr_answer_48 ff_Tr_15 hk (fun _ => rfl) ?_
    refine jj_callS [_] [_] 0 0 dd_Tr_answer_51 cs_Tr_74 ci_Tr_74 rfl (Nat.le_of_ble_eq_true rfl) ⟨(Nat.le_of_ble_eq_true rfl), (Nat.le_of_ble_eq_true rfl)⟩ ⟨(Nat.le_of_ble_eq_true rfl), (Nat.le_of_ble_eq_true rfl)⟩ rfl (ct_TC_asNumber ?_)
    refine jj_iadd dd_Tr_answer_54 ?_
    refine jj_iret dd_Tr_answer_55 rfl rfl ?_
    exact hQ
  · skip
    subst h1
    refine jj_tableIn (tgt := 56) dd_Tr_answer_1 (by decide) (by decide) rfl (by decide) ?_
    refine jj_aload_n 0 dd_Tr_answer_56 rfl ?_
    refine jj_geti dd_Tr_answer_57 ff_Tr_18 hk (fun _ => rfl) ?_
    refine jj_iret dd_Tr_answer_60 rfl rfl ?_
    exact hQ
  · skip
    subst h1
    refine jj_tableIn (tgt := 61) dd_Tr_answer_1 (by decide) (by decide) rfl (by decide) ?_
    refine jj_aload_n 0 dd_Tr_answer_61 rfl ?_
    refine jj_geti dd_Tr_answer_62 ff_Tr_22 hk (fun _ => rfl) ?_
    refine jj_iret dd_Tr_answer_65 rfl rfl ?_
    exact hQ
  · skip
    subst h1
    refine jj_tableIn (tgt := 66) dd_Tr_answer_1 (by decide) (by decide) rfl (by decide) ?_
    refine jj_aload_n 0 dd_Tr_answer_66 rfl ?_
    refine jj_geti dd_Tr_answer_67 ff_Tr_25 hk (fun _ => rfl) ?_
    refine jj_iret dd_Tr_answer_70 rfl rfl ?_
    exact hQ
  · skip
    subst h1
    refine jj_tableIn (tgt := 71) dd_Tr_answer_1 (by decide) (by decide) rfl (by decide) ?_
    refine jj_aload_n 0 dd_Tr_answer_71 rfl ?_
    refine jj_geti dd_Tr_answer_72 ff_Tr_31 hk (fun _ => rfl) ?_
    refine jj_iret dd_Tr_answer_75 rfl rfl ?_
    exact hQ
  · skip
    subst h1
    refine jj_tableIn (tgt := 76) dd_Tr_answer_1 (by decide) (by decide) rfl (by decide) ?_
    refine jj_aload_n 0 dd_Tr_answer_76 rfl ?_
    refine jj_geti dd_Tr_answer_77 ff_Tr_37 hk (fun _ => rfl) ?_
    refine jj_callS [_] [] 0 0 dd_Tr_answer_80 cs_Tr_74 ci_Tr_74 rfl (Nat.le_of_ble_eq_true rfl) ⟨(Nat.le_of_ble_eq_true rfl), (Nat.le_of_ble_eq_true rfl)⟩ ⟨(Nat.le_of_ble_eq_true rfl), (Nat.le_of_ble_eq_true rfl)⟩ rfl (ct_TC_asNumber ?_)
    refine jj_iret dd_Tr_answer_83 rfl rfl ?_
    exact hQ
theorem mm_si_same {M : mm_M} {a k : Nat} {x : Int32} (h : mm_i M a k = x) : mm_si M a k x = M := by
  rw [← h]
  exact mm_si_self M a k
def pl_L (M : mm_M) (a : Nat) : Int32 := if mm_i M a 2 < 8 then mm_i M a 2 else 0
def pl_M (M : mm_M) (a : Nat) : mm_M := mm_si (mm_si (mm_si (mm_si (mm_si M a 3 (mm_i M a 3 + 1)) a 2 (pl_L M a)) a 4 (if mm_i M a 4 ≤ 0 then mm_i M a 4 else mm_i M a 4 - 1)) a 0 (if mm_i M a 4 = 1 then 0 else mm_i M a 0)) a 2 (if mm_i M a 4 = 1 ∧ mm_i M a 5 = 0 then pl_L M a else pl_L M a + 1)
def pl_r (M : mm_M) (a : Nat) : Int32 := if mm_i M a 4 = 1 ∧ mm_i M a 5 = 0 then 0 else 1
set_option maxRecDepth 20000 in
theorem ct_Ta_putsIntoLog {l : Launch} {M : mm_M} {Q : Option Value → mm_M → Prop} {a : Nat} (hk : mm_k M a = some (.inl 2)) (hQ : Q (some (.int (pl_r M a))) (pl_M M a)) : ct_ l yy_Ta_putsIntoLog bb_Ta_putsIntoLog 3 (some .boolean) 0 0 0 [.ref a] M Q := by
  refine ct_of (by decide) (Nat.le_of_ble_eq_true rfl) (fun G A => ?_)
  refine jj_aload_n 0 dd_Ta_putsIntoLog_0 rfl ?_
  refine jj_dup dd_Ta_putsIntoLog_1 rfl ?_
  refine jj_geti dd_Ta_putsIntoLog_2 ff_Ta_22 hk (fun _ => rfl) ?_
  refine jj_iconst (v := 1) dd_Ta_putsIntoLog_5 rfl ?_
  refine jj_iadd dd_Ta_putsIntoLog_6 ?_
  refine jj_puti dd_Ta_putsIntoLog_7 (Or.inl ⟨ff_Ta_22, rfl⟩) hk (fun _ => rfl) ⟨rfl, rfl⟩ ?_
  refine jj_aload_n 0 dd_Ta_putsIntoLog_10 rfl ?_
  refine jj_geti dd_Ta_putsIntoLog_11 ff_Ta_19 hk (fun _ => rfl) ?_
  refine jj_bipush (v := 8) dd_Ta_putsIntoLog_14 rfl ?_
  refine jj_icmp_lt (tgt := 24) dd_Ta_putsIntoLog_16 (by decide) (fun h16 => ?_) (fun h16 => ?_)
  · skip
    refine jj_aload_n 0 dd_Ta_putsIntoLog_24 rfl ?_
    refine jj_geti dd_Ta_putsIntoLog_25 ff_Ta_25 hk (fun _ => rfl) ?_
    refine jj_iconst (v := 1) dd_Ta_putsIntoLog_28 rfl ?_
    refine jj_icmp_ne (tgt := 36) dd_Ta_putsIntoLog_29 (by decide) (fun h29 => ?_) (fun h29 => ?_)
    · skip
      refine jj_iconst (v := 0) dd_Ta_putsIntoLog_36 rfl ?_
      refine jj_istore_n (lv' := [(1, .int (0)), (0, .ref a)]) dd_Ta_putsIntoLog_37 (Nat.le_of_ble_eq_true rfl) rfl ?_
      refine jj_aload_n 1 dd_Ta_putsIntoLog_38 rfl ?_
      refine jj_geti dd_Ta_putsIntoLog_39 ff_Ta_25 hk (fun _ => rfl) ?_
      refine jj_if_le (tgt := 55) dd_Ta_putsIntoLog_42 (by decide) (fun h42 => ?_) (fun h42 => ?_)
      · skip
        refine jj_iload_n 0 dd_Ta_putsIntoLog_55 rfl ?_
        refine jj_if_eq (tgt := 64) dd_Ta_putsIntoLog_56 (by decide) (fun _ => ?_) (fun h => absurd h (by decide))
        refine jj_iload_n 0 dd_Ta_putsIntoLog_64 rfl ?_
        refine jj_if_eq (tgt := 75) dd_Ta_putsIntoLog_65 (by decide) (fun _ => ?_) (fun h => absurd h (by decide))
        refine jj_iconst (v := 1) dd_Ta_putsIntoLog_75 rfl ?_
        refine jj_goto (tgt := 80) dd_Ta_putsIntoLog_76 (by decide) ?_
        refine jj_istore_n (lv' := [(2, .int (1)), (1, .int (0)), (0, .ref a)]) dd_Ta_putsIntoLog_80 (Nat.le_of_ble_eq_true rfl) rfl ?_
        refine jj_iload_n 0 dd_Ta_putsIntoLog_81 rfl ?_
        refine jj_if_eq (tgt := 95) dd_Ta_putsIntoLog_82 (by decide) (fun h => absurd h (by decide)) (fun _ => ?_)
        refine jj_aload_n 2 dd_Ta_putsIntoLog_85 rfl ?_
        refine jj_dup dd_Ta_putsIntoLog_86 rfl ?_
        refine jj_geti dd_Ta_putsIntoLog_87 ff_Ta_19 hk (fun _ => rfl) ?_
        refine jj_iconst (v := 1) dd_Ta_putsIntoLog_90 rfl ?_
        refine jj_iadd dd_Ta_putsIntoLog_91 ?_
        refine jj_puti dd_Ta_putsIntoLog_92 (Or.inl ⟨ff_Ta_19, rfl⟩) hk (fun _ => rfl) ⟨rfl, rfl⟩ ?_
        refine jj_iload_n 0 dd_Ta_putsIntoLog_95 rfl ?_
        refine jj_iret dd_Ta_putsIntoLog_96 rfl rfl ?_
        simp [mm_i_si, -Int32.not_lt, -Int32.not_le] at h16 h29 h42
        first | (simpa [pl_M, pl_r, pl_L, mm_ret, mm_i_si, mm_si_same, -Int32.not_lt, -Int32.not_le, h16, h29, h42] using hQ) | (exfalso; rw [h29] at h42; exact absurd h42 (by decide))
      · skip
        refine jj_aload_n 1 dd_Ta_putsIntoLog_45 rfl ?_
        refine jj_dup dd_Ta_putsIntoLog_46 rfl ?_
        refine jj_geti dd_Ta_putsIntoLog_47 ff_Ta_25 hk (fun _ => rfl) ?_
        refine jj_iconst (v := 1) dd_Ta_putsIntoLog_50 rfl ?_
        refine jj_isub dd_Ta_putsIntoLog_51 ?_
        refine jj_puti dd_Ta_putsIntoLog_52 (Or.inl ⟨ff_Ta_25, rfl⟩) hk (fun _ => rfl) ⟨rfl, rfl⟩ ?_
        refine jj_iload_n 0 dd_Ta_putsIntoLog_55 rfl ?_
        refine jj_if_eq (tgt := 64) dd_Ta_putsIntoLog_56 (by decide) (fun _ => ?_) (fun h => absurd h (by decide))
        refine jj_iload_n 0 dd_Ta_putsIntoLog_64 rfl ?_
        refine jj_if_eq (tgt := 75) dd_Ta_putsIntoLog_65 (by decide) (fun _ => ?_) (fun h => absurd h (by decide))
        refine jj_iconst (v := 1) dd_Ta_putsIntoLog_75 rfl ?_
        refine jj_goto (tgt := 80) dd_Ta_putsIntoLog_76 (by decide) ?_
        refine jj_istore_n (lv' := [(2, .int (1)), (1, .int (0)), (0, .ref a)]) dd_Ta_putsIntoLog_80 (Nat.le_of_ble_eq_true rfl) rfl ?_
        refine jj_iload_n 0 dd_Ta_putsIntoLog_81 rfl ?_
        refine jj_if_eq (tgt := 95) dd_Ta_putsIntoLog_82 (by decide) (fun h => absurd h (by decide)) (fun _ => ?_)
        refine jj_aload_n 2 dd_Ta_putsIntoLog_85 rfl ?_
        refine jj_dup dd_Ta_putsIntoLog_86 rfl ?_
        refine jj_geti dd_Ta_putsIntoLog_87 ff_Ta_19 hk (fun _ => rfl) ?_
        refine jj_iconst (v := 1) dd_Ta_putsIntoLog_90 rfl ?_
        refine jj_iadd dd_Ta_putsIntoLog_91 ?_
        refine jj_puti dd_Ta_putsIntoLog_92 (Or.inl ⟨ff_Ta_19, rfl⟩) hk (fun _ => rfl) ⟨rfl, rfl⟩ ?_
        refine jj_iload_n 0 dd_Ta_putsIntoLog_95 rfl ?_
        refine jj_iret dd_Ta_putsIntoLog_96 rfl rfl ?_
        simp [mm_i_si, -Int32.not_lt, -Int32.not_le] at h16 h29 h42
        first | (simpa [pl_M, pl_r, pl_L, mm_ret, mm_i_si, mm_si_same, -Int32.not_lt, -Int32.not_le, h16, h29, h42] using hQ) | (exfalso; rw [h29] at h42; exact absurd h42 (by decide))
    · skip
      refine jj_iconst (v := 1) dd_Ta_putsIntoLog_32 rfl ?_
      refine jj_goto (tgt := 37) dd_Ta_putsIntoLog_33 (by decide) ?_
      refine jj_istore_n (lv' := [(1, .int (1)), (0, .ref a)]) dd_Ta_putsIntoLog_37 (Nat.le_of_ble_eq_true rfl) rfl ?_
      refine jj_aload_n 1 dd_Ta_putsIntoLog_38 rfl ?_
      refine jj_geti dd_Ta_putsIntoLog_39 ff_Ta_25 hk (fun _ => rfl) ?_
      refine jj_if_le (tgt := 55) dd_Ta_putsIntoLog_42 (by decide) (fun h42 => ?_) (fun h42 => ?_)
      · skip
        refine jj_iload_n 0 dd_Ta_putsIntoLog_55 rfl ?_
        refine jj_if_eq (tgt := 64) dd_Ta_putsIntoLog_56 (by decide) (fun h => absurd h (by decide)) (fun _ => ?_)
        refine jj_aload_n 1 dd_Ta_putsIntoLog_59 rfl ?_
        refine jj_iconst (v := 0) dd_Ta_putsIntoLog_60 rfl ?_
        refine jj_puti dd_Ta_putsIntoLog_61 (Or.inl ⟨ff_Ta_9, rfl⟩) hk (fun _ => rfl) ⟨rfl, rfl⟩ ?_
        refine jj_iload_n 0 dd_Ta_putsIntoLog_64 rfl ?_
        refine jj_if_eq (tgt := 75) dd_Ta_putsIntoLog_65 (by decide) (fun h => absurd h (by decide)) (fun _ => ?_)
        refine jj_aload_n 1 dd_Ta_putsIntoLog_68 rfl ?_
        refine jj_geti dd_Ta_putsIntoLog_69 ff_Ta_28 hk (fun _ => rfl) ?_
        refine jj_if_eq (tgt := 79) dd_Ta_putsIntoLog_72 (by decide) (fun h72 => ?_) (fun h72 => ?_)
        · skip
          refine jj_iconst (v := 0) dd_Ta_putsIntoLog_79 rfl ?_
          refine jj_istore_n (lv' := [(2, .int (0)), (1, .int (1)), (0, .ref a)]) dd_Ta_putsIntoLog_80 (Nat.le_of_ble_eq_true rfl) rfl ?_
          refine jj_iload_n 0 dd_Ta_putsIntoLog_81 rfl ?_
          refine jj_if_eq (tgt := 95) dd_Ta_putsIntoLog_82 (by decide) (fun _ => ?_) (fun h => absurd h (by decide))
          refine jj_iload_n 0 dd_Ta_putsIntoLog_95 rfl ?_
          refine jj_iret dd_Ta_putsIntoLog_96 rfl rfl ?_
          simp [mm_i_si, -Int32.not_lt, -Int32.not_le] at h16 h29 h42 h72
          first | (simpa [pl_M, pl_r, pl_L, mm_ret, mm_i_si, mm_si_same, -Int32.not_lt, -Int32.not_le, h16, h29, h42, h72] using hQ) | (exfalso; rw [h29] at h42; exact absurd h42 (by decide))
        · skip
          refine jj_iconst (v := 1) dd_Ta_putsIntoLog_75 rfl ?_
          refine jj_goto (tgt := 80) dd_Ta_putsIntoLog_76 (by decide) ?_
          refine jj_istore_n (lv' := [(2, .int (1)), (1, .int (1)), (0, .ref a)]) dd_Ta_putsIntoLog_80 (Nat.le_of_ble_eq_true rfl) rfl ?_
          refine jj_iload_n 0 dd_Ta_putsIntoLog_81 rfl ?_
          refine jj_if_eq (tgt := 95) dd_Ta_putsIntoLog_82 (by decide) (fun h => absurd h (by decide)) (fun _ => ?_)
          refine jj_aload_n 2 dd_Ta_putsIntoLog_85 rfl ?_
          refine jj_dup dd_Ta_putsIntoLog_86 rfl ?_
          refine jj_geti dd_Ta_putsIntoLog_87 ff_Ta_19 hk (fun _ => rfl) ?_
          refine jj_iconst (v := 1) dd_Ta_putsIntoLog_90 rfl ?_
          refine jj_iadd dd_Ta_putsIntoLog_91 ?_
          refine jj_puti dd_Ta_putsIntoLog_92 (Or.inl ⟨ff_Ta_19, rfl⟩) hk (fun _ => rfl) ⟨rfl, rfl⟩ ?_
          refine jj_iload_n 0 dd_Ta_putsIntoLog_95 rfl ?_
          refine jj_iret dd_Ta_putsIntoLog_96 rfl rfl ?_
          simp [mm_i_si, -Int32.not_lt, -Int32.not_le] at h16 h29 h42 h72
          first | (simpa [pl_M, pl_r, pl_L, mm_ret, mm_i_si, mm_si_same, -Int32.not_lt, -Int32.not_le, h16, h29, h42, h72] using hQ) | (exfalso; rw [h29] at h42; exact absurd h42 (by decide))
      · skip
        refine jj_aload_n 1 dd_Ta_putsIntoLog_45 rfl ?_
        refine jj_dup dd_Ta_putsIntoLog_46 rfl ?_
        refine jj_geti dd_Ta_putsIntoLog_47 ff_Ta_25 hk (fun _ => rfl) ?_
        refine jj_iconst (v := 1) dd_Ta_putsIntoLog_50 rfl ?_
        refine jj_isub dd_Ta_putsIntoLog_51 ?_
        refine jj_puti dd_Ta_putsIntoLog_52 (Or.inl ⟨ff_Ta_25, rfl⟩) hk (fun _ => rfl) ⟨rfl, rfl⟩ ?_
        refine jj_iload_n 0 dd_Ta_putsIntoLog_55 rfl ?_
        refine jj_if_eq (tgt := 64) dd_Ta_putsIntoLog_56 (by decide) (fun h => absurd h (by decide)) (fun _ => ?_)
        refine jj_aload_n 1 dd_Ta_putsIntoLog_59 rfl ?_
        refine jj_iconst (v := 0) dd_Ta_putsIntoLog_60 rfl ?_
        refine jj_puti dd_Ta_putsIntoLog_61 (Or.inl ⟨ff_Ta_9, rfl⟩) hk (fun _ => rfl) ⟨rfl, rfl⟩ ?_
        refine jj_iload_n 0 dd_Ta_putsIntoLog_64 rfl ?_
        refine jj_if_eq (tgt := 75) dd_Ta_putsIntoLog_65 (by decide) (fun h => absurd h (by decide)) (fun _ => ?_)
        refine jj_aload_n 1 dd_Ta_putsIntoLog_68 rfl ?_
        refine jj_geti dd_Ta_putsIntoLog_69 ff_Ta_28 hk (fun _ => rfl) ?_
        refine jj_if_eq (tgt := 79) dd_Ta_putsIntoLog_72 (by decide) (fun h72 => ?_) (fun h72 => ?_)
        · skip
          refine jj_iconst (v := 0) dd_Ta_putsIntoLog_79 rfl ?_
          refine jj_istore_n (lv' := [(2, .int (0)), (1, .int (1)), (0, .ref a)]) dd_Ta_putsIntoLog_80 (Nat.le_of_ble_eq_true rfl) rfl ?_
          refine jj_iload_n 0 dd_Ta_putsIntoLog_81 rfl ?_
          refine jj_if_eq (tgt := 95) dd_Ta_putsIntoLog_82 (by decide) (fun _ => ?_) (fun h => absurd h (by decide))
          refine jj_iload_n 0 dd_Ta_putsIntoLog_95 rfl ?_
          refine jj_iret dd_Ta_putsIntoLog_96 rfl rfl ?_
          simp [mm_i_si, -Int32.not_lt, -Int32.not_le] at h16 h29 h42 h72
          first | (simpa [pl_M, pl_r, pl_L, mm_ret, mm_i_si, mm_si_same, -Int32.not_lt, -Int32.not_le, h16, h29, h42, h72] using hQ) | (exfalso; rw [h29] at h42; exact absurd h42 (by decide))
        · skip
          refine jj_iconst (v := 1) dd_Ta_putsIntoLog_75 rfl ?_
          refine jj_goto (tgt := 80) dd_Ta_putsIntoLog_76 (by decide) ?_
          refine jj_istore_n (lv' := [(2, .int (1)), (1, .int (1)), (0, .ref a)]) dd_Ta_putsIntoLog_80 (Nat.le_of_ble_eq_true rfl) rfl ?_
          refine jj_iload_n 0 dd_Ta_putsIntoLog_81 rfl ?_
          refine jj_if_eq (tgt := 95) dd_Ta_putsIntoLog_82 (by decide) (fun h => absurd h (by decide)) (fun _ => ?_)
          refine jj_aload_n 2 dd_Ta_putsIntoLog_85 rfl ?_
          refine jj_dup dd_Ta_putsIntoLog_86 rfl ?_
          refine jj_geti dd_Ta_putsIntoLog_87 ff_Ta_19 hk (fun _ => rfl) ?_
          refine jj_iconst (v := 1) dd_Ta_putsIntoLog_90 rfl ?_
          refine jj_iadd dd_Ta_putsIntoLog_91 ?_
          refine jj_puti dd_Ta_putsIntoLog_92 (Or.inl ⟨ff_Ta_19, rfl⟩) hk (fun _ => rfl) ⟨rfl, rfl⟩ ?_
          refine jj_iload_n 0 dd_Ta_putsIntoLog_95 rfl ?_
          refine jj_iret dd_Ta_putsIntoLog_96 rfl rfl ?_
          simp [mm_i_si, -Int32.not_lt, -Int32.not_le] at h16 h29 h42 h72
          first | (simpa [pl_M, pl_r, pl_L, mm_ret, mm_i_si, mm_si_same, -Int32.not_lt, -Int32.not_le, h16, h29, h42, h72] using hQ) | (exfalso; rw [h29] at h42; exact absurd h42 (by decide))
  · skip
    refine jj_aload_n 0 dd_Ta_putsIntoLog_19 rfl ?_
    refine jj_iconst (v := 0) dd_Ta_putsIntoLog_20 rfl ?_
    refine jj_puti dd_Ta_putsIntoLog_21 (Or.inl ⟨ff_Ta_19, rfl⟩) hk (fun _ => rfl) ⟨rfl, rfl⟩ ?_
    refine jj_aload_n 0 dd_Ta_putsIntoLog_24 rfl ?_
    refine jj_geti dd_Ta_putsIntoLog_25 ff_Ta_25 hk (fun _ => rfl) ?_
    refine jj_iconst (v := 1) dd_Ta_putsIntoLog_28 rfl ?_
    refine jj_icmp_ne (tgt := 36) dd_Ta_putsIntoLog_29 (by decide) (fun h29 => ?_) (fun h29 => ?_)
    · skip
      refine jj_iconst (v := 0) dd_Ta_putsIntoLog_36 rfl ?_
      refine jj_istore_n (lv' := [(1, .int (0)), (0, .ref a)]) dd_Ta_putsIntoLog_37 (Nat.le_of_ble_eq_true rfl) rfl ?_
      refine jj_aload_n 1 dd_Ta_putsIntoLog_38 rfl ?_
      refine jj_geti dd_Ta_putsIntoLog_39 ff_Ta_25 hk (fun _ => rfl) ?_
      refine jj_if_le (tgt := 55) dd_Ta_putsIntoLog_42 (by decide) (fun h42 => ?_) (fun h42 => ?_)
      · skip
        refine jj_iload_n 0 dd_Ta_putsIntoLog_55 rfl ?_
        refine jj_if_eq (tgt := 64) dd_Ta_putsIntoLog_56 (by decide) (fun _ => ?_) (fun h => absurd h (by decide))
        refine jj_iload_n 0 dd_Ta_putsIntoLog_64 rfl ?_
        refine jj_if_eq (tgt := 75) dd_Ta_putsIntoLog_65 (by decide) (fun _ => ?_) (fun h => absurd h (by decide))
        refine jj_iconst (v := 1) dd_Ta_putsIntoLog_75 rfl ?_
        refine jj_goto (tgt := 80) dd_Ta_putsIntoLog_76 (by decide) ?_
        refine jj_istore_n (lv' := [(2, .int (1)), (1, .int (0)), (0, .ref a)]) dd_Ta_putsIntoLog_80 (Nat.le_of_ble_eq_true rfl) rfl ?_
        refine jj_iload_n 0 dd_Ta_putsIntoLog_81 rfl ?_
        refine jj_if_eq (tgt := 95) dd_Ta_putsIntoLog_82 (by decide) (fun h => absurd h (by decide)) (fun _ => ?_)
        refine jj_aload_n 2 dd_Ta_putsIntoLog_85 rfl ?_
        refine jj_dup dd_Ta_putsIntoLog_86 rfl ?_
        refine jj_geti dd_Ta_putsIntoLog_87 ff_Ta_19 hk (fun _ => rfl) ?_
        refine jj_iconst (v := 1) dd_Ta_putsIntoLog_90 rfl ?_
        refine jj_iadd dd_Ta_putsIntoLog_91 ?_
        refine jj_puti dd_Ta_putsIntoLog_92 (Or.inl ⟨ff_Ta_19, rfl⟩) hk (fun _ => rfl) ⟨rfl, rfl⟩ ?_
        refine jj_iload_n 0 dd_Ta_putsIntoLog_95 rfl ?_
        refine jj_iret dd_Ta_putsIntoLog_96 rfl rfl ?_
        simp [mm_i_si, -Int32.not_lt, -Int32.not_le] at h16 h29 h42
        first | (simpa [pl_M, pl_r, pl_L, mm_ret, mm_i_si, mm_si_same, -Int32.not_lt, -Int32.not_le, h16, h29, h42] using hQ) | (exfalso; rw [h29] at h42; exact absurd h42 (by decide))
      · skip
        refine jj_aload_n 1 dd_Ta_putsIntoLog_45 rfl ?_
        refine jj_dup dd_Ta_putsIntoLog_46 rfl ?_
        refine jj_geti dd_Ta_putsIntoLog_47 ff_Ta_25 hk (fun _ => rfl) ?_
        refine jj_iconst (v := 1) dd_Ta_putsIntoLog_50 rfl ?_
        refine jj_isub dd_Ta_putsIntoLog_51 ?_
        refine jj_puti dd_Ta_putsIntoLog_52 (Or.inl ⟨ff_Ta_25, rfl⟩) hk (fun _ => rfl) ⟨rfl, rfl⟩ ?_
        refine jj_iload_n 0 dd_Ta_putsIntoLog_55 rfl ?_
        refine jj_if_eq (tgt := 64) dd_Ta_putsIntoLog_56 (by decide) (fun _ => ?_) (fun h => absurd h (by decide))
        refine jj_iload_n 0 dd_Ta_putsIntoLog_64 rfl ?_
        refine jj_if_eq (tgt := 75) dd_Ta_putsIntoLog_65 (by decide) (fun _ => ?_) (fun h => absurd h (by decide))
        refine jj_iconst (v := 1) dd_Ta_putsIntoLog_75 rfl ?_
        refine jj_goto (tgt := 80) dd_Ta_putsIntoLog_76 (by decide) ?_
        refine jj_istore_n (lv' := [(2, .int (1)), (1, .int (0)), (0, .ref a)]) dd_Ta_putsIntoLog_80 (Nat.le_of_ble_eq_true rfl) rfl ?_
        refine jj_iload_n 0 dd_Ta_putsIntoLog_81 rfl ?_
        refine jj_if_eq (tgt := 95) dd_Ta_putsIntoLog_82 (by decide) (fun h => absurd h (by decide)) (fun _ => ?_)
        refine jj_aload_n 2 dd_Ta_putsIntoLog_85 rfl ?_
        refine jj_dup dd_Ta_putsIntoLog_86 rfl ?_
        refine jj_geti dd_Ta_putsIntoLog_87 ff_Ta_19 hk (fun _ => rfl) ?_
        refine jj_iconst (v := 1) dd_Ta_putsIntoLog_90 rfl ?_
        refine jj_iadd dd_Ta_putsIntoLog_91 ?_
        refine jj_puti dd_Ta_putsIntoLog_92 (Or.inl ⟨ff_Ta_19, rfl⟩) hk (fun _ => rfl) ⟨rfl, rfl⟩ ?_
        refine jj_iload_n 0 dd_Ta_putsIntoLog_95 rfl ?_
        refine jj_iret dd_Ta_putsIntoLog_96 rfl rfl ?_
        simp [mm_i_si, -Int32.not_lt, -Int32.not_le] at h16 h29 h42
        first | (simpa [pl_M, pl_r, pl_L, mm_ret, mm_i_si, mm_si_same, -Int32.not_lt, -Int32.not_le, h16, h29, h42] using hQ) | (exfalso; rw [h29] at h42; exact absurd h42 (by decide))
    · skip
      refine jj_iconst (v := 1) dd_Ta_putsIntoLog_32 rfl ?_
      refine jj_goto (tgt := 37) dd_Ta_putsIntoLog_33 (by decide) ?_
      refine jj_istore_n (lv' := [(1, .int (1)), (0, .ref a)]) dd_Ta_putsIntoLog_37 (Nat.le_of_ble_eq_true rfl) rfl ?_
      refine jj_aload_n 1 dd_Ta_putsIntoLog_38 rfl ?_
      refine jj_geti dd_Ta_putsIntoLog_39 ff_Ta_25 hk (fun _ => rfl) ?_
      refine jj_if_le (tgt := 55) dd_Ta_putsIntoLog_42 (by decide) (fun h42 => ?_) (fun h42 => ?_)
      · skip
        refine jj_iload_n 0 dd_Ta_putsIntoLog_55 rfl ?_
        refine jj_if_eq (tgt := 64) dd_Ta_putsIntoLog_56 (by decide) (fun h => absurd h (by decide)) (fun _ => ?_)
        refine jj_aload_n 1 dd_Ta_putsIntoLog_59 rfl ?_
        refine jj_iconst (v := 0) dd_Ta_putsIntoLog_60 rfl ?_
        refine jj_puti dd_Ta_putsIntoLog_61 (Or.inl ⟨ff_Ta_9, rfl⟩) hk (fun _ => rfl) ⟨rfl, rfl⟩ ?_
        refine jj_iload_n 0 dd_Ta_putsIntoLog_64 rfl ?_
        refine jj_if_eq (tgt := 75) dd_Ta_putsIntoLog_65 (by decide) (fun h => absurd h (by decide)) (fun _ => ?_)
        refine jj_aload_n 1 dd_Ta_putsIntoLog_68 rfl ?_
        refine jj_geti dd_Ta_putsIntoLog_69 ff_Ta_28 hk (fun _ => rfl) ?_
        refine jj_if_eq (tgt := 79) dd_Ta_putsIntoLog_72 (by decide) (fun h72 => ?_) (fun h72 => ?_)
        · skip
          refine jj_iconst (v := 0) dd_Ta_putsIntoLog_79 rfl ?_
          refine jj_istore_n (lv' := [(2, .int (0)), (1, .int (1)), (0, .ref a)]) dd_Ta_putsIntoLog_80 (Nat.le_of_ble_eq_true rfl) rfl ?_
          refine jj_iload_n 0 dd_Ta_putsIntoLog_81 rfl ?_
          refine jj_if_eq (tgt := 95) dd_Ta_putsIntoLog_82 (by decide) (fun _ => ?_) (fun h => absurd h (by decide))
          refine jj_iload_n 0 dd_Ta_putsIntoLog_95 rfl ?_
          refine jj_iret dd_Ta_putsIntoLog_96 rfl rfl ?_
          simp [mm_i_si, -Int32.not_lt, -Int32.not_le] at h16 h29 h42 h72
          first | (simpa [pl_M, pl_r, pl_L, mm_ret, mm_i_si, mm_si_same, -Int32.not_lt, -Int32.not_le, h16, h29, h42, h72] using hQ) | (exfalso; rw [h29] at h42; exact absurd h42 (by decide))
        · skip
          refine jj_iconst (v := 1) dd_Ta_putsIntoLog_75 rfl ?_
          refine jj_goto (tgt := 80) dd_Ta_putsIntoLog_76 (by decide) ?_
          refine jj_istore_n (lv' := [(2, .int (1)), (1, .int (1)), (0, .ref a)]) dd_Ta_putsIntoLog_80 (Nat.le_of_ble_eq_true rfl) rfl ?_
          refine jj_iload_n 0 dd_Ta_putsIntoLog_81 rfl ?_
          refine jj_if_eq (tgt := 95) dd_Ta_putsIntoLog_82 (by decide) (fun h => absurd h (by decide)) (fun _ => ?_)
          refine jj_aload_n 2 dd_Ta_putsIntoLog_85 rfl ?_
          refine jj_dup dd_Ta_putsIntoLog_86 rfl ?_
          refine jj_geti dd_Ta_putsIntoLog_87 ff_Ta_19 hk (fun _ => rfl) ?_
          refine jj_iconst (v := 1) dd_Ta_putsIntoLog_90 rfl ?_
          refine jj_iadd dd_Ta_putsIntoLog_91 ?_
          refine jj_puti dd_Ta_putsIntoLog_92 (Or.inl ⟨ff_Ta_19, rfl⟩) hk (fun _ => rfl) ⟨rfl, rfl⟩ ?_
          refine jj_iload_n 0 dd_Ta_putsIntoLog_95 rfl ?_
          refine jj_iret dd_Ta_putsIntoLog_96 rfl rfl ?_
          simp [mm_i_si, -Int32.not_lt, -Int32.not_le] at h16 h29 h42 h72
          first | (simpa [pl_M, pl_r, pl_L, mm_ret, mm_i_si, mm_si_same, -Int32.not_lt, -Int32.not_le, h16, h29, h42, h72] using hQ) | (exfalso; rw [h29] at h42; exact absurd h42 (by decide))
      · skip
        refine jj_aload_n 1 dd_Ta_putsIntoLog_45 rfl ?_
        refine jj_dup dd_Ta_putsIntoLog_46 rfl ?_
        refine jj_geti dd_Ta_putsIntoLog_47 ff_Ta_25 hk (fun _ => rfl) ?_
        refine jj_iconst (v := 1) dd_Ta_putsIntoLog_50 rfl ?_
        refine jj_isub dd_Ta_putsIntoLog_51 ?_
        refine jj_puti dd_Ta_putsIntoLog_52 (Or.inl ⟨ff_Ta_25, rfl⟩) hk (fun _ => rfl) ⟨rfl, rfl⟩ ?_
        refine jj_iload_n 0 dd_Ta_putsIntoLog_55 rfl ?_
        refine jj_if_eq (tgt := 64) dd_Ta_putsIntoLog_56 (by decide) (fun h => absurd h (by decide)) (fun _ => ?_)
        refine jj_aload_n 1 dd_Ta_putsIntoLog_59 rfl ?_
        refine jj_iconst (v := 0) dd_Ta_putsIntoLog_60 rfl ?_
        refine jj_puti dd_Ta_putsIntoLog_61 (Or.inl ⟨ff_Ta_9, rfl⟩) hk (fun _ => rfl) ⟨rfl, rfl⟩ ?_
        refine jj_iload_n 0 dd_Ta_putsIntoLog_64 rfl ?_
        refine jj_if_eq (tgt := 75) dd_Ta_putsIntoLog_65 (by decide) (fun h => absurd h (by decide)) (fun _ => ?_)
        refine jj_aload_n 1 dd_Ta_putsIntoLog_68 rfl ?_
        refine jj_geti dd_Ta_putsIntoLog_69 ff_Ta_28 hk (fun _ => rfl) ?_
        refine jj_if_eq (tgt := 79) dd_Ta_putsIntoLog_72 (by decide) (fun h72 => ?_) (fun h72 => ?_)
        · skip
          refine jj_iconst (v := 0) dd_Ta_putsIntoLog_79 rfl ?_
          refine jj_istore_n (lv' := [(2, .int (0)), (1, .int (1)), (0, .ref a)]) dd_Ta_putsIntoLog_80 (Nat.le_of_ble_eq_true rfl) rfl ?_
          refine jj_iload_n 0 dd_Ta_putsIntoLog_81 rfl ?_
          refine jj_if_eq (tgt := 95) dd_Ta_putsIntoLog_82 (by decide) (fun _ => ?_) (fun h => absurd h (by decide))
          refine jj_iload_n 0 dd_Ta_putsIntoLog_95 rfl ?_
          refine jj_iret dd_Ta_putsIntoLog_96 rfl rfl ?_
          simp [mm_i_si, -Int32.not_lt, -Int32.not_le] at h16 h29 h42 h72
          first | (simpa [pl_M, pl_r, pl_L, mm_ret, mm_i_si, mm_si_same, -Int32.not_lt, -Int32.not_le, h16, h29, h42, h72] using hQ) | (exfalso; rw [h29] at h42; exact absurd h42 (by decide))
        · skip
          refine jj_iconst (v := 1) dd_Ta_putsIntoLog_75 rfl ?_
          refine jj_goto (tgt := 80) dd_Ta_putsIntoLog_76 (by decide) ?_
          refine jj_istore_n (lv' := [(2, .int (1)), (1, .int (1)), (0, .ref a)]) dd_Ta_putsIntoLog_80 (Nat.le_of_ble_eq_true rfl) rfl ?_
          refine jj_iload_n 0 dd_Ta_putsIntoLog_81 rfl ?_
          refine jj_if_eq (tgt := 95) dd_Ta_putsIntoLog_82 (by decide) (fun h => absurd h (by decide)) (fun _ => ?_)
          refine jj_aload_n 2 dd_Ta_putsIntoLog_85 rfl ?_
          refine jj_dup dd_Ta_putsIntoLog_86 rfl ?_
          refine jj_geti dd_Ta_putsIntoLog_87 ff_Ta_19 hk (fun _ => rfl) ?_
          refine jj_iconst (v := 1) dd_Ta_putsIntoLog_90 rfl ?_
          refine jj_iadd dd_Ta_putsIntoLog_91 ?_
          refine jj_puti dd_Ta_putsIntoLog_92 (Or.inl ⟨ff_Ta_19, rfl⟩) hk (fun _ => rfl) ⟨rfl, rfl⟩ ?_
          refine jj_iload_n 0 dd_Ta_putsIntoLog_95 rfl ?_
          refine jj_iret dd_Ta_putsIntoLog_96 rfl rfl ?_
          simp [mm_i_si, -Int32.not_lt, -Int32.not_le] at h16 h29 h42 h72
          first | (simpa [pl_M, pl_r, pl_L, mm_ret, mm_i_si, mm_si_same, -Int32.not_lt, -Int32.not_le, h16, h29, h42, h72] using hQ) | (exfalso; rw [h29] at h42; exact absurd h42 (by decide))
