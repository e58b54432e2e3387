set_option maxRecDepth 20000 in
theorem ct_TC_writeSweep {l : Launch} {M : mm_M} {Q : Option Value → mm_M → Prop} {g : Nat → Nat} {S : ss_} (hS : rp_ g M S) {t : Nat} {x : Int32} (ht : t < 3) (hQ0 : plr_ S.1 t = 0 → ∀ M', rp_ g M' (wsS_ S t x) → Q (some (.int 0)) M') (hQ : ¬ plr_ S.1 t = 0 → ∀ M', rp_ g M' (wsS_ S t x) → Q (some (.int 1)) M') : ct_ l yy_TC_writeSweep bb_TC_writeSweep 8 (some .boolean) 2 0 0 [.ref (g 0), .int (nI t), .int x] M Q := by
  refine ct_of (by decide) (Nat.le_of_ble_eq_true rfl) (fun G A => ?_)
  have loop : ∀ (n k : Nat) (S : ss_) (M : mm_M), k + n = 12 → rp_ g M S → (∀ M', rp_ g M' (ws_go x t n k S) → Q (some (.int 1)) M') → jj_ l yy_TC_writeSweep bb_TC_writeSweep 8 (some .boolean) G (mm_R 2 0 0) A (mm_ret Q) 0 0 35 [(6, .int (nI (k))), (5, .int (12)), (4, .ref (g 3)), (3, .ref (g (10 + t))), (0, .ref (g 0)), (1, .int (nI (t))), (2, .int (x))] [] M := by
    intro n
    induction n with
    | zero =>
      intro k S M hk hS hQ
      have hk : k = 12 := by omega
      subst hk
      refine jj_iload 0 dd_TC_writeSweep_35 rfl ?_
      refine jj_iload 1 dd_TC_writeSweep_37 rfl ?_
      refine jj_icmp_ge (tgt := 70) dd_TC_writeSweep_39 (by decide) (fun h39 => ?_) (fun h39 => ?_)
      · skip
        refine jj_iconst (v := 1) dd_TC_writeSweep_70 rfl ?_
        refine jj_iret dd_TC_writeSweep_71 rfl rfl ?_
        exact hQ _ hS
      · exact absurd (mm_rfl _) h39
    | succ n ih =>
      intro k S M hk hS hQ
      unfold ws_go at hQ
      refine jj_iload 0 dd_TC_writeSweep_35 rfl ?_
      refine jj_iload 1 dd_TC_writeSweep_37 rfl ?_
      refine jj_icmp_ge (tgt := 70) dd_TC_writeSweep_39 (by decide) (fun h39 => ?_) (fun h39 => ?_)
      · exact absurd h39 (nI_ge (b := 12) (by omega) (by decide))
      · skip
        refine jj_aload 2 dd_TC_writeSweep_42 rfl ?_
        refine jj_iload 0 dd_TC_writeSweep_44 rfl ?_
        refine jj_at3 (k) hS dd_TC_writeSweep_46 (by omega) rfl ?_
        refine jj_astore (lv' := [(7, .ref (g (20 + k))), (6, .int (nI (k))), (5, .int (12)), (4, .ref (g 3)), (3, .ref (g (10 + t))), (0, .ref (g 0)), (1, .int (nI (t))), (2, .int (x))]) dd_TC_writeSweep_47 (Nat.le_of_ble_eq_true rfl) rfl ?_
        refine jj_aload 0 dd_TC_writeSweep_49 rfl ?_
        refine jj_home hS dd_TC_writeSweep_51 ff_TC_95 (by omega) ?_
        refine jj_aload_n 4 dd_TC_writeSweep_54 rfl ?_
        refine jj_acmp_ne (some (g (10 + k / 4))) (some (g (10 + t))) (tgt := 64) dd_TC_writeSweep_55 (by decide) (fun h55 => ?_) (fun h55 => ?_)
        · skip
          have g55 : ¬ k / 4 = t := fun e => h55 (by rw [e])
          refine jj_iinc 1 (lv' := [(6, .int (nI (k + 1))), (7, .ref (g (20 + k))), (5, .int (12)), (4, .ref (g 3)), (3, .ref (g (10 + t))), (0, .ref (g 0)), (1, .int (nI (t))), (2, .int (x))]) dd_TC_writeSweep_64 rfl (nI_1 k) (Nat.le_of_ble_eq_true rfl) rfl ?_
          refine jj_goto (tgt := 35) dd_TC_writeSweep_67 (by decide) ?_
          refine jj_sub [0, 2, 3, 4, 5, 6, 7] rfl ?_
          rw [if_neg g55] at hQ
          exact ih (k + 1) _ _ (by omega) hS hQ
        · skip
          have g55 : k / 4 = t := by have := hS.1.2.1 _ _ _ _ (ok_t (by omega)) (ok_t ht) (Option.some.inj h55); omega
          refine jj_aload 0 dd_TC_writeSweep_58 rfl ?_
          refine jj_iload_n 7 dd_TC_writeSweep_60 rfl ?_
          refine jj_callV (ci := 3) [_] [] 0 0 dd_TC_writeSweep_61 cs_TC_296 ci_TC_296 (hS.1.1 _ _ (ok_c (by omega))) ⟨by decide, rfl⟩ rfl (Nat.le_of_ble_eq_true rfl) ⟨(Nat.le_of_ble_eq_true rfl), (Nat.le_of_ble_eq_true rfl)⟩ ⟨(Nat.le_of_ble_eq_true rfl), (Nat.le_of_ble_eq_true rfl)⟩ rfl (ct_Ce_forgetBefore hS (by omega) (fun M hS => ?_))
          refine jj_iinc 1 (lv' := [(6, .int (nI (k + 1))), (7, .ref (g (20 + k))), (5, .int (12)), (4, .ref (g 3)), (3, .ref (g (10 + t))), (0, .ref (g 0)), (1, .int (nI (t))), (2, .int (x))]) dd_TC_writeSweep_64 rfl (nI_1 k) (Nat.le_of_ble_eq_true rfl) rfl ?_
          refine jj_goto (tgt := 35) dd_TC_writeSweep_67 (by decide) ?_
          refine jj_sub [0, 2, 3, 4, 5, 6, 7] rfl ?_
          rw [if_pos g55] at hQ
          exact ih (k + 1) _ _ (by omega) hS hQ
  refine jj_aload_n 0 dd_TC_writeSweep_0 rfl ?_
  refine jj_tc2 hS dd_TC_writeSweep_1 ff_TC_31 ?_
  refine jj_iload_n 1 dd_TC_writeSweep_4 rfl ?_
  refine jj_at2 (t) hS dd_TC_writeSweep_5 (by omega) rfl ?_
  refine jj_astore_n (lv' := [(3, .ref (g (10 + t))), (0, .ref (g 0)), (1, .int (nI (t))), (2, .int (x))]) dd_TC_writeSweep_6 (Nat.le_of_ble_eq_true rfl) rfl ?_
  refine jj_aload_n 0 dd_TC_writeSweep_7 rfl ?_
  refine jj_callV (ci := 2) [] [] 0 0 dd_TC_writeSweep_8 cs_TC_293 ci_TC_293 (hS.1.1 _ _ (ok_t (by omega))) ⟨by decide, rfl⟩ rfl (Nat.le_of_ble_eq_true rfl) ⟨(Nat.le_of_ble_eq_true rfl), (Nat.le_of_ble_eq_true rfl)⟩ ⟨(Nat.le_of_ble_eq_true rfl), (Nat.le_of_ble_eq_true rfl)⟩ rfl (cs_use (cs_Ta_putsIntoLog ht (fun M hS => ?_)) hS)
  refine jj_if_ne (tgt := 16) dd_TC_writeSweep_11 (by decide) (fun h11 => ?_) (fun h11 => ?_)
  · skip
    refine jj_aload_n 0 dd_TC_writeSweep_16 rfl ?_
    refine jj_iload_n 3 dd_TC_writeSweep_17 rfl ?_
    refine jj_pS hS dd_TC_writeSweep_18 ⟨ff_TC_104, rfl⟩ (ok_t (by omega)) (fun _ => rfl) ⟨rfl, rfl⟩ (fun M hS => ?_)
    refine jj_aload_n 1 dd_TC_writeSweep_21 rfl ?_
    refine jj_tc3 hS dd_TC_writeSweep_22 ff_TC_38 ?_
    refine jj_astore (lv' := [(4, .ref (g 3)), (3, .ref (g (10 + t))), (0, .ref (g 0)), (1, .int (nI (t))), (2, .int (x))]) dd_TC_writeSweep_25 (Nat.le_of_ble_eq_true rfl) rfl ?_
    refine jj_aload 0 dd_TC_writeSweep_27 rfl ?_
    refine jj_alen (v := 12) dd_TC_writeSweep_29 (hS.1.1 3 _ rfl) (by decide) rfl ?_
    refine jj_istore (lv' := [(5, .int (12)), (4, .ref (g 3)), (3, .ref (g (10 + t))), (0, .ref (g 0)), (1, .int (nI (t))), (2, .int (x))]) dd_TC_writeSweep_30 (Nat.le_of_ble_eq_true rfl) rfl ?_
    refine jj_iconst (v := 0) dd_TC_writeSweep_32 rfl ?_
    refine jj_istore (lv' := [(6, .int (0)), (5, .int (12)), (4, .ref (g 3)), (3, .ref (g (10 + t))), (0, .ref (g 0)), (1, .int (nI (t))), (2, .int (x))]) dd_TC_writeSweep_33 (Nat.le_of_ble_eq_true rfl) rfl ?_
    exact loop 12 0 _ _ (by omega) hS (fun M hS => hQ h11 M (by unfold wsS_; rw [if_neg h11]; exact hS))
  · skip
    refine jj_iconst (v := 0) dd_TC_writeSweep_14 rfl ?_
    refine jj_iret dd_TC_writeSweep_15 rfl rfl ?_
    exact hQ0 h11 _ (by unfold wsS_; rw [if_pos h11]; exact hS)
set_option maxRecDepth 20000 in
theorem ct_TC_sweep {l : Launch} {M : mm_M} {Q : Option Value → mm_M → Prop} {g : Nat → Nat} {S : ss_} (hS : rp_ g M S) {x : Int32} (hQ : swC_ S x (fun r S' => ∀ M', rp_ g M' S' → Q (some (.int r)) M')) : ct_ l yy_TC_sweep bb_TC_sweep 4 (some .int) 3 0 0 [.ref (g 0), .int x] M Q := by
  refine ct_of (by decide) (Nat.le_of_ble_eq_true rfl) (fun G A => ?_)
  unfold swC_ at hQ
  have loop : ∀ (n k : Nat) (a : Int32) (S : ss_) (M : mm_M), k + n = 3 → rp_ g M S → swC_go x n k a S (fun r S' => ∀ M', rp_ g M' S' → Q (some (.int r)) M') → jj_ l yy_TC_sweep bb_TC_sweep 4 (some .int) G (mm_R 3 0 0) A (mm_ret Q) 0 0 14 [(3, .int (nI (k))), (2, .int (a)), (0, .ref (g 0)), (1, .int (x))] [] M := by
    intro n
    induction n with
    | zero =>
      intro k a S M hk hS hQ
      have hk : k = 3 := by omega
      subst hk
      refine jj_iload_n 0 dd_TC_sweep_14 rfl ?_
      refine jj_iconst (v := 3) dd_TC_sweep_15 rfl ?_
      refine jj_icmp_ge (tgt := 52) dd_TC_sweep_16 (by decide) (fun h16 => ?_) (fun h16 => ?_)
      · skip
        refine jj_iload_n 1 dd_TC_sweep_52 rfl ?_
        refine jj_iret dd_TC_sweep_53 rfl rfl ?_
        exact hQ _ hS
      · exact absurd (mm_rfl _) h16
    | succ n ih =>
      intro k a S M hk hS hQ
      unfold swC_go at hQ
      refine jj_iload_n 0 dd_TC_sweep_14 rfl ?_
      refine jj_iconst (v := 3) dd_TC_sweep_15 rfl ?_
      refine jj_icmp_ge (tgt := 52) dd_TC_sweep_16 (by decide) (fun h16 => ?_) (fun h16 => ?_)
      · exact absurd h16 (nI_ge (b := 3) (by omega) (by decide))
      · skip
        refine jj_aload_n 2 dd_TC_sweep_19 rfl ?_
        refine jj_iload_n 0 dd_TC_sweep_20 rfl ?_
        refine jj_iload_n 3 dd_TC_sweep_21 rfl ?_
        refine jj_callV (ci := 0) [_, _] [] 0 0 dd_TC_sweep_22 cs_TC_181 ci_TC_181 (hS.1.1 _ _ rfl) ⟨by decide, rfl⟩ rfl (Nat.le_of_ble_eq_true rfl) ⟨(Nat.le_of_ble_eq_true rfl), (Nat.le_of_ble_eq_true rfl)⟩ ⟨(Nat.le_of_ble_eq_true rfl), (Nat.le_of_ble_eq_true rfl)⟩ rfl (ct_TC_writeSweep hS (by omega) (fun hw M hS => ?_) (fun hw M hS => ?_))
        · skip
          refine jj_if_eq (tgt := 31) dd_TC_sweep_25 (by decide) (fun _ => ?_) (fun h => absurd h (by decide))
          refine jj_aload_n 2 dd_TC_sweep_31 rfl ?_
          refine jj_tc2 hS dd_TC_sweep_32 ff_TC_31 ?_
          refine jj_iload_n 0 dd_TC_sweep_35 rfl ?_
          refine jj_at2 (k) hS dd_TC_sweep_36 (by omega) rfl ?_
          refine jj_gS hS dd_TC_sweep_37 ff_TC_99 (ok_t (by omega)) (fun _ => rfl) ?_
          refine jj_if_ne (tgt := 46) dd_TC_sweep_40 (by decide) (fun h40 => ?_) (fun h40 => ?_)
          · skip
            refine jj_iinc 0 (lv' := [(3, .int (nI (k + 1))), (2, .int (a)), (0, .ref (g 0)), (1, .int (x))]) dd_TC_sweep_46 rfl (nI_1 k) (Nat.le_of_ble_eq_true rfl) rfl ?_
            refine jj_goto (tgt := 14) dd_TC_sweep_49 (by decide) ?_
            rw [if_pos hw, if_neg h40] at hQ
            exact ih (k + 1) _ _ _ (by omega) hS hQ
          · skip
            refine jj_goto (tgt := 52) dd_TC_sweep_43 (by decide) ?_
            refine jj_iload_n 1 dd_TC_sweep_52 rfl ?_
            refine jj_iret dd_TC_sweep_53 rfl rfl ?_
            rw [if_pos hw, if_pos h40] at hQ
            exact hQ _ hS
        · skip
          refine jj_if_eq (tgt := 31) dd_TC_sweep_25 (by decide) (fun h => absurd h (by decide)) (fun _ => ?_)
          refine jj_iinc 1 (lv' := [(2, .int (a + 1)), (3, .int (nI (k))), (0, .ref (g 0)), (1, .int (x))]) dd_TC_sweep_28 rfl rfl (Nat.le_of_ble_eq_true rfl) rfl ?_
          refine jj_aload_n 2 dd_TC_sweep_31 rfl ?_
          refine jj_tc2 hS dd_TC_sweep_32 ff_TC_31 ?_
          refine jj_iload_n 1 dd_TC_sweep_35 rfl ?_
          refine jj_at2 (k) hS dd_TC_sweep_36 (by omega) rfl ?_
          refine jj_gS hS dd_TC_sweep_37 ff_TC_99 (ok_t (by omega)) (fun _ => rfl) ?_
          refine jj_if_ne (tgt := 46) dd_TC_sweep_40 (by decide) (fun h40 => ?_) (fun h40 => ?_)
          · skip
            refine jj_iinc 1 (lv' := [(3, .int (nI (k + 1))), (2, .int (a + 1)), (0, .ref (g 0)), (1, .int (x))]) dd_TC_sweep_46 rfl (nI_1 k) (Nat.le_of_ble_eq_true rfl) rfl ?_
            refine jj_goto (tgt := 14) dd_TC_sweep_49 (by decide) ?_
            rw [if_neg hw, if_neg h40] at hQ
            exact ih (k + 1) _ _ _ (by omega) hS hQ
          · skip
            refine jj_goto (tgt := 52) dd_TC_sweep_43 (by decide) ?_
            refine jj_iload_n 0 dd_TC_sweep_52 rfl ?_
            refine jj_iret dd_TC_sweep_53 rfl rfl ?_
            rw [if_neg hw, if_pos h40] at hQ
            exact hQ _ hS
  refine jj_aload_n 0 dd_TC_sweep_0 rfl ?_
  refine jj_iload_n 1 dd_TC_sweep_1 rfl ?_
  refine jj_callV (ci := 0) [_] [] 0 0 dd_TC_sweep_2 cs_TC_178 ci_TC_178 (hS.1.1 _ _ rfl) ⟨by decide, rfl⟩ rfl (Nat.le_of_ble_eq_true rfl) ⟨(Nat.le_of_ble_eq_true rfl), (Nat.le_of_ble_eq_true rfl)⟩ ⟨(Nat.le_of_ble_eq_true rfl), (Nat.le_of_ble_eq_true rfl)⟩ rfl (ct_TC_maySweep hS ?_)
  refine jj_if_ne (tgt := 10) dd_TC_sweep_5 (by decide) (fun h5 => ?_) (fun h5 => ?_)
  · skip
    refine jj_iconst (v := 0) dd_TC_sweep_10 rfl ?_
    refine jj_istore_n (lv' := [(2, .int (0)), (0, .ref (g 0)), (1, .int (x))]) dd_TC_sweep_11 (Nat.le_of_ble_eq_true rfl) rfl ?_
    refine jj_iconst (v := 0) dd_TC_sweep_12 rfl ?_
    refine jj_istore_n (lv' := [(3, .int (0)), (2, .int (0)), (0, .ref (g 0)), (1, .int (x))]) dd_TC_sweep_13 (Nat.le_of_ble_eq_true rfl) rfl ?_
    rw [if_neg h5] at hQ
    exact loop 3 0 0 _ _ (by omega) hS hQ
  · skip
    refine jj_iconst (v := (-1)) dd_TC_sweep_8 rfl ?_
    refine jj_iret dd_TC_sweep_9 rfl rfl ?_
    rw [if_pos h5] at hQ
    exact hQ _ hS
