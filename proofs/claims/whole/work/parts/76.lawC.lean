theorem ite_jj {c : Prop} [Decidable c] {l : Launch} {y : MethodName} {cc : ByteArray} {nL : Nat} {ret : Option FieldType} {G : mm_G} {R : Room} {A : Nat → Prop} {Q : mm_O → mm_M → Prop} {mc ms pc : Nat} {lv : List (Nat × Value)} {st : List Value} {M : mm_M} {a z x : Int32} (h : (if c then a else z) = x) (k : jj_ l y cc nL ret G R A Q mc ms pc lv (.int x :: st) M) : if c then jj_ l y cc nL ret G R A Q mc ms pc lv ((some (Value.int a)).toList ++ st) M else jj_ l y cc nL ret G R A Q mc ms pc lv ((some (Value.int z)).toList ++ st) M := by
  split
  · rename_i hc; rw [if_pos hc] at h; rw [h]; exact k
  · rename_i hc; rw [if_neg hc] at h; rw [h]; exact k
set_option maxRecDepth 20000 in
theorem lc_oracle {l : Launch} (hfl : l.flags = pinnedFlags ++ [noTraceFlag]) {G : mm_G} {A : Nat → Prop} {b L n k : Nat} {xs : Nat → Int32} {g : Nat → Nat} {S : ss_} {M : mm_M} (hG : sk_ G b L xs) (hn : n < 512) (hL : 4 + 4 * n < L) (hL2 : L ≤ 2049) (hS : rp_ g M S) (hI : inv_ n S) (nxt : ∀ S1 M1, rp_ g M1 S1 → inv_ (n + 1) S1 → jj_ l yy_La_law code 7 (some .boolean) G room_1 A (mm_ret (fun v _ => v = some (.int 1))) (4 * k) (22 * k) 868 [(4, .int (nI (1 + 4 * n))), (3, .ref (g 100)), (2, .ref (g 60)), (1, .ref (g 0)), (0, .ref b)] [] M1) : jj_ l yy_La_law code 7 (some .boolean) G room_1 A (mm_ret (fun v _ => v = some (.int 1))) (4 * (k + 1)) (22 * (k + 1)) 843 [(4, .int (nI (1 + 4 * n))), (3, .ref (g 100)), (2, .ref (g 60)), (1, .ref (g 0)), (0, .ref b)] [] M := by
  obtain ⟨T, hs0⟩ := hI
  have hI : inv_ n S := ⟨T, hs0⟩
  have hsim : sim_ S.1 S.1 T (1 + 8 * n) (fun _ => n) (2 * n) S (uf_ S.1 60 1 0) := sim_err hs0
  refine jj_aload_n 3 dd_La_law_843 rfl ?_
  refine jj_aload_n 4 dd_La_law_844 rfl ?_
  refine jj_iload 0 dd_La_law_845 rfl ?_
  refine jj_iconst (v := 1) dd_La_law_847 rfl ?_
  refine jj_iadd dd_La_law_848 ?_
  refine jj_ti (x' := nI (1 + 4 * n + 1)) (nI_add (1 + 4 * n) 1) ?_
  refine jj_sald hG dd_La_law_849 (vp_in_nI (by omega) (by omega)) (1 + 4 * n + 1) (nI_clamp (by omega)) ?_
  refine jj_callV (ci := 0) [_] [] (4 * k) (22 * k) dd_La_law_850 cs_La_124 ci_La_124 (hS.1.1 0 _ rfl) ⟨by decide, rfl⟩ rfl (Nat.le_of_ble_eq_true rfl) ⟨(Nat.le_of_ble_eq_true rfl), (Nat.le_of_ble_eq_true rfl)⟩ ⟨by omega, by omega⟩ rfl (ct_TC_oracle hS ?_)
  refine jj_aload_n 2 dd_La_law_853 rfl ?_
  refine jj_aload_n 4 dd_La_law_854 rfl ?_
  refine jj_iload 0 dd_La_law_855 rfl ?_
  refine jj_iconst (v := 1) dd_La_law_857 rfl ?_
  refine jj_iadd dd_La_law_858 ?_
  refine jj_ti (x' := nI (1 + 4 * n + 1)) (nI_add (1 + 4 * n) 1) ?_
  refine jj_sald hG dd_La_law_859 (vp_in_nI (by omega) (by omega)) (1 + 4 * n + 1) (nI_clamp (by omega)) ?_
  refine jj_callV (ci := 7) [_] [_] (4 * k) (22 * k) dd_La_law_860 cs_La_127 ci_La_127 (hS.1.1 60 _ rfl) ⟨by decide, rfl⟩ rfl (Nat.le_of_ble_eq_true rfl) ⟨(Nat.le_of_ble_eq_true rfl), (Nat.le_of_ble_eq_true rfl)⟩ ⟨by omega, by omega⟩ rfl (cs_use (cs_Mo_oracle rfl (oc_eq hsim (fun M3 hS3 => ?_))) hS)
  refine jj_icmp_eq (tgt := 868) dd_La_law_863 (by decide) (fun _ => ?_) (fun h => absurd rfl h)
  exact nxt _ _ hS3 (inv_0 hI)
set_option maxRecDepth 20000 in
theorem lc_tablet {l : Launch} (hfl : l.flags = pinnedFlags ++ [noTraceFlag]) {G : mm_G} {A : Nat → Prop} {b L n k : Nat} {xs : Nat → Int32} {g : Nat → Nat} {S : ss_} {M : mm_M} (hG : sk_ G b L xs) (hn : n < 512) (hL : 4 + 4 * n < L) (hL2 : L ≤ 2049) (hS : rp_ g M S) (hI : inv_ n S) (nxt : ∀ S1 M1, rp_ g M1 S1 → inv_ (n + 1) S1 → jj_ l yy_La_law code 7 (some .boolean) G room_1 A (mm_ret (fun v _ => v = some (.int 1))) (4 * k) (22 * k) 868 [(4, .int (nI (1 + 4 * n))), (3, .ref (g 100)), (2, .ref (g 60)), (1, .ref (g 0)), (0, .ref b)] [] M1) : jj_ l yy_La_law code 7 (some .boolean) G room_1 A (mm_ret (fun v _ => v = some (.int 1))) (4 * (k + 1)) (22 * (k + 1)) 806 [(4, .int (nI (1 + 4 * n))), (3, .ref (g 100)), (2, .ref (g 60)), (1, .ref (g 0)), (0, .ref b)] [] M := by
  obtain ⟨T, hs0⟩ := hI
  have hI : inv_ n S := ⟨T, hs0⟩
  have hsim : sim_ S.1 S.1 T (1 + 8 * n) (fun _ => n) (2 * n) S (uf_ S.1 60 1 0) := sim_err hs0
  by_cases h0 : vp_in (xs (1 + 4 * n + 1)) 3
  · obtain ⟨t, ht, et⟩ := xs_c (by decide) h0
    by_cases hy : xs (1 + 4 * n + 2) < 0 ∨ 2 < xs (1 + 4 * n + 2)
    · skip
      refine jj_aload_n 3 dd_La_law_806 rfl ?_
      refine jj_aload_n 4 dd_La_law_807 rfl ?_
      refine jj_iload 0 dd_La_law_808 rfl ?_
      refine jj_iconst (v := 1) dd_La_law_810 rfl ?_
      refine jj_iadd dd_La_law_811 ?_
      refine jj_ti (x' := nI (1 + 4 * n + 1)) (nI_add (1 + 4 * n) 1) ?_
      refine jj_sald hG dd_La_law_812 (vp_in_nI (by omega) (by omega)) (1 + 4 * n + 1) (nI_clamp (by omega)) ?_
      refine jj_ti (x' := nI t) et ?_
      refine jj_aload_n 4 dd_La_law_813 rfl ?_
      refine jj_iload 0 dd_La_law_814 rfl ?_
      refine jj_iconst (v := 2) dd_La_law_816 rfl ?_
      refine jj_iadd dd_La_law_817 ?_
      refine jj_ti (x' := nI (1 + 4 * n + 2)) (nI_add (1 + 4 * n) 2) ?_
      refine jj_sald hG dd_La_law_818 (vp_in_nI (by omega) (by omega)) (1 + 4 * n + 2) (nI_clamp (by omega)) ?_
      refine jj_callV (ci := 0) [_, _] [] (4 * k) (22 * k) dd_La_law_819 cs_La_120 ci_La_120 (hS.1.1 0 _ rfl) ⟨by decide, rfl⟩ rfl (Nat.le_of_ble_eq_true rfl) ⟨(Nat.le_of_ble_eq_true rfl), (Nat.le_of_ble_eq_true rfl)⟩ ⟨by omega, by omega⟩ rfl (ct_TC_tablet hS ht ?_)
      rw [ta_out hy]
      refine jj_aload_n 2 dd_La_law_822 rfl ?_
      refine jj_aload_n 4 dd_La_law_823 rfl ?_
      refine jj_iload 0 dd_La_law_824 rfl ?_
      refine jj_iconst (v := 1) dd_La_law_826 rfl ?_
      refine jj_iadd dd_La_law_827 ?_
      refine jj_ti (x' := nI (1 + 4 * n + 1)) (nI_add (1 + 4 * n) 1) ?_
      refine jj_sald hG dd_La_law_828 (vp_in_nI (by omega) (by omega)) (1 + 4 * n + 1) (nI_clamp (by omega)) ?_
      refine jj_ti (x' := nI t) et ?_
      refine jj_aload_n 4 dd_La_law_829 rfl ?_
      refine jj_iload 0 dd_La_law_830 rfl ?_
      refine jj_iconst (v := 2) dd_La_law_832 rfl ?_
      refine jj_iadd dd_La_law_833 ?_
      refine jj_ti (x' := nI (1 + 4 * n + 2)) (nI_add (1 + 4 * n) 2) ?_
      refine jj_sald hG dd_La_law_834 (vp_in_nI (by omega) (by omega)) (1 + 4 * n + 2) (nI_clamp (by omega)) ?_
      refine jj_callV (ci := 7) [_, _] [_] (4 * k) (22 * k) dd_La_law_835 cs_La_123 ci_La_123 (hS.1.1 60 _ rfl) ⟨by decide, rfl⟩ rfl (Nat.le_of_ble_eq_true rfl) ⟨(Nat.le_of_ble_eq_true rfl), (Nat.le_of_ble_eq_true rfl)⟩ ⟨by omega, by omega⟩ rfl (cs_use (cs_Mo_tablet0 rfl (Or.inr hy) (fun M3 hS3 => ?_)) hS)
      refine jj_icmp_eq (tgt := 868) dd_La_law_838 (by decide) (fun _ => ?_) (fun h => absurd rfl h)
      exact nxt _ _ hS3 (inv_0 hI)
    · skip
      refine jj_aload_n 3 dd_La_law_806 rfl ?_
      refine jj_aload_n 4 dd_La_law_807 rfl ?_
      refine jj_iload 0 dd_La_law_808 rfl ?_
      refine jj_iconst (v := 1) dd_La_law_810 rfl ?_
      refine jj_iadd dd_La_law_811 ?_
      refine jj_ti (x' := nI (1 + 4 * n + 1)) (nI_add (1 + 4 * n) 1) ?_
      refine jj_sald hG dd_La_law_812 (vp_in_nI (by omega) (by omega)) (1 + 4 * n + 1) (nI_clamp (by omega)) ?_
      refine jj_ti (x' := nI t) et ?_
      refine jj_aload_n 4 dd_La_law_813 rfl ?_
      refine jj_iload 0 dd_La_law_814 rfl ?_
      refine jj_iconst (v := 2) dd_La_law_816 rfl ?_
      refine jj_iadd dd_La_law_817 ?_
      refine jj_ti (x' := nI (1 + 4 * n + 2)) (nI_add (1 + 4 * n) 2) ?_
      refine jj_sald hG dd_La_law_818 (vp_in_nI (by omega) (by omega)) (1 + 4 * n + 2) (nI_clamp (by omega)) ?_
      refine jj_callV (ci := 0) [_, _] [] (4 * k) (22 * k) dd_La_law_819 cs_La_120 ci_La_120 (hS.1.1 0 _ rfl) ⟨by decide, rfl⟩ rfl (Nat.le_of_ble_eq_true rfl) ⟨(Nat.le_of_ble_eq_true rfl), (Nat.le_of_ble_eq_true rfl)⟩ ⟨by omega, by omega⟩ rfl (ct_TC_tablet hS ht ?_)
      refine jj_aload_n 2 dd_La_law_822 rfl ?_
      refine jj_aload_n 4 dd_La_law_823 rfl ?_
      refine jj_iload 0 dd_La_law_824 rfl ?_
      refine jj_iconst (v := 1) dd_La_law_826 rfl ?_
      refine jj_iadd dd_La_law_827 ?_
      refine jj_ti (x' := nI (1 + 4 * n + 1)) (nI_add (1 + 4 * n) 1) ?_
      refine jj_sald hG dd_La_law_828 (vp_in_nI (by omega) (by omega)) (1 + 4 * n + 1) (nI_clamp (by omega)) ?_
      refine jj_ti (x' := nI t) et ?_
      refine jj_aload_n 4 dd_La_law_829 rfl ?_
      refine jj_iload 0 dd_La_law_830 rfl ?_
      refine jj_iconst (v := 2) dd_La_law_832 rfl ?_
      refine jj_iadd dd_La_law_833 ?_
      refine jj_ti (x' := nI (1 + 4 * n + 2)) (nI_add (1 + 4 * n) 2) ?_
      refine jj_sald hG dd_La_law_834 (vp_in_nI (by omega) (by omega)) (1 + 4 * n + 2) (nI_clamp (by omega)) ?_
      refine jj_callV (ci := 7) [_, _] [_] (4 * k) (22 * k) dd_La_law_835 cs_La_123 ci_La_123 (hS.1.1 60 _ rfl) ⟨by decide, rfl⟩ rfl (Nat.le_of_ble_eq_true rfl) ⟨(Nat.le_of_ble_eq_true rfl), (Nat.le_of_ble_eq_true rfl)⟩ ⟨by omega, by omega⟩ rfl (cs_use (cs_Mo_tablet rfl ht (fun h => hy (Or.inl h)) (fun h => hy (Or.inr h)) (tb_eq hsim ht (fun h => hy (Or.inl h)) (fun h => hy (Or.inr h)) (fun M3 hS3 => ?_))) hS)
      refine jj_icmp_eq (tgt := 868) dd_La_law_838 (by decide) (fun _ => ?_) (fun h => absurd rfl h)
      exact nxt _ _ hS3 (inv_0 hI)
  · skip
    refine jj_aload_n 3 dd_La_law_806 rfl ?_
    refine jj_aload_n 4 dd_La_law_807 rfl ?_
    refine jj_iload 0 dd_La_law_808 rfl ?_
    refine jj_iconst (v := 1) dd_La_law_810 rfl ?_
    refine jj_iadd dd_La_law_811 ?_
    refine jj_ti (x' := nI (1 + 4 * n + 1)) (nI_add (1 + 4 * n) 1) ?_
    refine jj_sald hG dd_La_law_812 (vp_in_nI (by omega) (by omega)) (1 + 4 * n + 1) (nI_clamp (by omega)) ?_
    refine jj_aload_n 4 dd_La_law_813 rfl ?_
    refine jj_iload 0 dd_La_law_814 rfl ?_
    refine jj_iconst (v := 2) dd_La_law_816 rfl ?_
    refine jj_iadd dd_La_law_817 ?_
    refine jj_ti (x' := nI (1 + 4 * n + 2)) (nI_add (1 + 4 * n) 2) ?_
    refine jj_sald hG dd_La_law_818 (vp_in_nI (by omega) (by omega)) (1 + 4 * n + 2) (nI_clamp (by omega)) ?_
    refine jj_callV (ci := 0) [_, _] [] (4 * k) (22 * k) dd_La_law_819 cs_La_120 ci_La_120 (hS.1.1 0 _ rfl) ⟨by decide, rfl⟩ rfl (Nat.le_of_ble_eq_true rfl) ⟨(Nat.le_of_ble_eq_true rfl), (Nat.le_of_ble_eq_true rfl)⟩ ⟨by omega, by omega⟩ rfl (ct_TC_tablet0 (z := 0) hS h0 ?_)
    show jj_ _ _ _ _ _ _ _ _ _ _ _ 822 _ [.int (-1)] M
    refine jj_aload_n 2 dd_La_law_822 rfl ?_
    refine jj_aload_n 4 dd_La_law_823 rfl ?_
    refine jj_iload 0 dd_La_law_824 rfl ?_
    refine jj_iconst (v := 1) dd_La_law_826 rfl ?_
    refine jj_iadd dd_La_law_827 ?_
    refine jj_ti (x' := nI (1 + 4 * n + 1)) (nI_add (1 + 4 * n) 1) ?_
    refine jj_sald hG dd_La_law_828 (vp_in_nI (by omega) (by omega)) (1 + 4 * n + 1) (nI_clamp (by omega)) ?_
    refine jj_aload_n 4 dd_La_law_829 rfl ?_
    refine jj_iload 0 dd_La_law_830 rfl ?_
    refine jj_iconst (v := 2) dd_La_law_832 rfl ?_
    refine jj_iadd dd_La_law_833 ?_
    refine jj_ti (x' := nI (1 + 4 * n + 2)) (nI_add (1 + 4 * n) 2) ?_
    refine jj_sald hG dd_La_law_834 (vp_in_nI (by omega) (by omega)) (1 + 4 * n + 2) (nI_clamp (by omega)) ?_
    refine jj_callV (ci := 7) [_, _] [_] (4 * k) (22 * k) dd_La_law_835 cs_La_123 ci_La_123 (hS.1.1 60 _ rfl) ⟨by decide, rfl⟩ rfl (Nat.le_of_ble_eq_true rfl) ⟨(Nat.le_of_ble_eq_true rfl), (Nat.le_of_ble_eq_true rfl)⟩ ⟨by omega, by omega⟩ rfl (cs_use (cs_Mo_tablet0 rfl (Or.inl (vo_ (n := 2) (by decide) h0)) (fun M3 hS3 => ?_)) hS)
    refine jj_icmp_eq (tgt := 868) dd_La_law_838 (by decide) (fun _ => ?_) (fun h => absurd rfl h)
    exact nxt _ _ hS3 (inv_0 hI)
set_option maxRecDepth 20000 in
theorem lc_transaction {l : Launch} (hfl : l.flags = pinnedFlags ++ [noTraceFlag]) {G : mm_G} {A : Nat → Prop} {b L n k : Nat} {xs : Nat → Int32} {g : Nat → Nat} {S : ss_} {M : mm_M} (hG : sk_ G b L xs) (hn : n < 512) (hL : 4 + 4 * n < L) (hL2 : L ≤ 2049) (hS : rp_ g M S) (hI : inv_ n S) (nxt : ∀ S1 M1, rp_ g M1 S1 → inv_ (n + 1) S1 → jj_ l yy_La_law code 7 (some .boolean) G room_1 A (mm_ret (fun v _ => v = some (.int 1))) (4 * k) (22 * k) 868 [(4, .int (nI (1 + 4 * n))), (3, .ref (g 100)), (2, .ref (g 60)), (1, .ref (g 0)), (0, .ref b)] [] M1) : jj_ l yy_La_law code 7 (some .boolean) G room_1 A (mm_ret (fun v _ => v = some (.int 1))) (4 * (k + 1)) (22 * (k + 1)) 683 [(4, .int (nI (1 + 4 * n))), (3, .ref (g 100)), (2, .ref (g 60)), (1, .ref (g 0)), (0, .ref b)] [] M := by
  obtain ⟨T, hs0⟩ := hI
  have hI : inv_ n S := ⟨T, hs0⟩
  have hsim : sim_ S.1 S.1 T (1 + 8 * n) (fun _ => n) (2 * n) S (uf_ S.1 60 1 0) := sim_err hs0
  by_cases h0 : vp_in (xs (1 + 4 * n + 1)) 4
  · obtain ⟨c, hc, ec⟩ := xs_c (by decide) h0
    by_cases hy : xs (1 + 4 * n + 2) < 0 ∨ 5 < xs (1 + 4 * n + 2)
    · skip
      refine jj_aload_n 3 dd_La_law_683 rfl ?_
      refine jj_aload_n 4 dd_La_law_684 rfl ?_
      refine jj_iload 0 dd_La_law_685 rfl ?_
      refine jj_iconst (v := 1) dd_La_law_687 rfl ?_
      refine jj_iadd dd_La_law_688 ?_
      refine jj_ti (x' := nI (1 + 4 * n + 1)) (nI_add (1 + 4 * n) 1) ?_
      refine jj_sald hG dd_La_law_689 (vp_in_nI (by omega) (by omega)) (1 + 4 * n + 1) (nI_clamp (by omega)) ?_
      refine jj_ti (x' := nI c) ec ?_
      refine jj_aload_n 4 dd_La_law_690 rfl ?_
      refine jj_iload 0 dd_La_law_691 rfl ?_
      refine jj_iconst (v := 2) dd_La_law_693 rfl ?_
      refine jj_iadd dd_La_law_694 ?_
      refine jj_ti (x' := nI (1 + 4 * n + 2)) (nI_add (1 + 4 * n) 2) ?_
      refine jj_sald hG dd_La_law_695 (vp_in_nI (by omega) (by omega)) (1 + 4 * n + 2) (nI_clamp (by omega)) ?_
      refine jj_callV (ci := 0) [_, _] [] (4 * k) (22 * k) dd_La_law_696 cs_La_107 ci_La_107 (hS.1.1 0 _ rfl) ⟨by decide, rfl⟩ rfl (Nat.le_of_ble_eq_true rfl) ⟨(Nat.le_of_ble_eq_true rfl), (Nat.le_of_ble_eq_true rfl)⟩ ⟨by omega, by omega⟩ rfl (ct_TC_transaction hS hc ?_)
      rw [tx_out hy]
      refine jj_aload_n 2 dd_La_law_699 rfl ?_
      refine jj_aload_n 4 dd_La_law_700 rfl ?_
      refine jj_iload 0 dd_La_law_701 rfl ?_
      refine jj_iconst (v := 1) dd_La_law_703 rfl ?_
      refine jj_iadd dd_La_law_704 ?_
      refine jj_ti (x' := nI (1 + 4 * n + 1)) (nI_add (1 + 4 * n) 1) ?_
      refine jj_sald hG dd_La_law_705 (vp_in_nI (by omega) (by omega)) (1 + 4 * n + 1) (nI_clamp (by omega)) ?_
      refine jj_ti (x' := nI c) ec ?_
      refine jj_aload_n 4 dd_La_law_706 rfl ?_
      refine jj_iload 0 dd_La_law_707 rfl ?_
      refine jj_iconst (v := 2) dd_La_law_709 rfl ?_
      refine jj_iadd dd_La_law_710 ?_
      refine jj_ti (x' := nI (1 + 4 * n + 2)) (nI_add (1 + 4 * n) 2) ?_
      refine jj_sald hG dd_La_law_711 (vp_in_nI (by omega) (by omega)) (1 + 4 * n + 2) (nI_clamp (by omega)) ?_
      refine jj_callV (ci := 7) [_, _] [_] (4 * k) (22 * k) dd_La_law_712 cs_La_110 ci_La_110 (hS.1.1 60 _ rfl) ⟨by decide, rfl⟩ rfl (Nat.le_of_ble_eq_true rfl) ⟨(Nat.le_of_ble_eq_true rfl), (Nat.le_of_ble_eq_true rfl)⟩ ⟨by omega, by omega⟩ rfl (cs_use (cs_Mo_transaction0 rfl (Or.inr hy) (fun M3 hS3 => ?_)) hS)
      refine jj_icmp_eq (tgt := 868) dd_La_law_715 (by decide) (fun _ => ?_) (fun h => absurd rfl h)
      exact nxt _ _ hS3 (inv_0 hI)
    · skip
      refine jj_aload_n 3 dd_La_law_683 rfl ?_
      refine jj_aload_n 4 dd_La_law_684 rfl ?_
      refine jj_iload 0 dd_La_law_685 rfl ?_
      refine jj_iconst (v := 1) dd_La_law_687 rfl ?_
      refine jj_iadd dd_La_law_688 ?_
      refine jj_ti (x' := nI (1 + 4 * n + 1)) (nI_add (1 + 4 * n) 1) ?_
      refine jj_sald hG dd_La_law_689 (vp_in_nI (by omega) (by omega)) (1 + 4 * n + 1) (nI_clamp (by omega)) ?_
      refine jj_ti (x' := nI c) ec ?_
      refine jj_aload_n 4 dd_La_law_690 rfl ?_
      refine jj_iload 0 dd_La_law_691 rfl ?_
      refine jj_iconst (v := 2) dd_La_law_693 rfl ?_
      refine jj_iadd dd_La_law_694 ?_
      refine jj_ti (x' := nI (1 + 4 * n + 2)) (nI_add (1 + 4 * n) 2) ?_
      refine jj_sald hG dd_La_law_695 (vp_in_nI (by omega) (by omega)) (1 + 4 * n + 2) (nI_clamp (by omega)) ?_
      refine jj_callV (ci := 0) [_, _] [] (4 * k) (22 * k) dd_La_law_696 cs_La_107 ci_La_107 (hS.1.1 0 _ rfl) ⟨by decide, rfl⟩ rfl (Nat.le_of_ble_eq_true rfl) ⟨(Nat.le_of_ble_eq_true rfl), (Nat.le_of_ble_eq_true rfl)⟩ ⟨by omega, by omega⟩ rfl (ct_TC_transaction hS hc ?_)
      refine jj_aload_n 2 dd_La_law_699 rfl ?_
      refine jj_aload_n 4 dd_La_law_700 rfl ?_
      refine jj_iload 0 dd_La_law_701 rfl ?_
      refine jj_iconst (v := 1) dd_La_law_703 rfl ?_
      refine jj_iadd dd_La_law_704 ?_
      refine jj_ti (x' := nI (1 + 4 * n + 1)) (nI_add (1 + 4 * n) 1) ?_
      refine jj_sald hG dd_La_law_705 (vp_in_nI (by omega) (by omega)) (1 + 4 * n + 1) (nI_clamp (by omega)) ?_
      refine jj_ti (x' := nI c) ec ?_
      refine jj_aload_n 4 dd_La_law_706 rfl ?_
      refine jj_iload 0 dd_La_law_707 rfl ?_
      refine jj_iconst (v := 2) dd_La_law_709 rfl ?_
      refine jj_iadd dd_La_law_710 ?_
      refine jj_ti (x' := nI (1 + 4 * n + 2)) (nI_add (1 + 4 * n) 2) ?_
      refine jj_sald hG dd_La_law_711 (vp_in_nI (by omega) (by omega)) (1 + 4 * n + 2) (nI_clamp (by omega)) ?_
      refine jj_callV (ci := 7) [_, _] [_] (4 * k) (22 * k) dd_La_law_712 cs_La_110 ci_La_110 (hS.1.1 60 _ rfl) ⟨by decide, rfl⟩ rfl (Nat.le_of_ble_eq_true rfl) ⟨(Nat.le_of_ble_eq_true rfl), (Nat.le_of_ble_eq_true rfl)⟩ ⟨by omega, by omega⟩ rfl (cs_use (cs_Mo_transaction rfl hc (fun h => hy (Or.inl h)) (fun h => hy (Or.inr h)) (tx_eq (K := fun r F => ∀ M', rp_ g M' (F, S.2) → jj_ l yy_La_law code 7 (some .boolean) G room_1 A (mm_ret (fun v _ => v = some (.int 1))) (4 * k) (22 * k) 715 [(4, .int (nI (1 + 4 * n))), (3, .ref (g 100)), (2, .ref (g 60)), (1, .ref (g 0)), (0, .ref b)] [.int r, .int (txa_ S.1 c (xs (1 + 4 * n + 2)))] M') hsim hc (fun h => hy (Or.inl h)) (fun h => hy (Or.inr h)) (fun M3 hS3 => ?_))) hS)
      refine jj_icmp_eq (tgt := 868) dd_La_law_715 (by decide) (fun _ => ?_) (fun h => absurd rfl h)
      exact nxt _ _ hS3 (inv_0 hI)
  · skip
    refine jj_aload_n 3 dd_La_law_683 rfl ?_
    refine jj_aload_n 4 dd_La_law_684 rfl ?_
    refine jj_iload 0 dd_La_law_685 rfl ?_
    refine jj_iconst (v := 1) dd_La_law_687 rfl ?_
    refine jj_iadd dd_La_law_688 ?_
    refine jj_ti (x' := nI (1 + 4 * n + 1)) (nI_add (1 + 4 * n) 1) ?_
    refine jj_sald hG dd_La_law_689 (vp_in_nI (by omega) (by omega)) (1 + 4 * n + 1) (nI_clamp (by omega)) ?_
    refine jj_aload_n 4 dd_La_law_690 rfl ?_
    refine jj_iload 0 dd_La_law_691 rfl ?_
    refine jj_iconst (v := 2) dd_La_law_693 rfl ?_
    refine jj_iadd dd_La_law_694 ?_
    refine jj_ti (x' := nI (1 + 4 * n + 2)) (nI_add (1 + 4 * n) 2) ?_
    refine jj_sald hG dd_La_law_695 (vp_in_nI (by omega) (by omega)) (1 + 4 * n + 2) (nI_clamp (by omega)) ?_
    refine jj_callV (ci := 0) [_, _] [] (4 * k) (22 * k) dd_La_law_696 cs_La_107 ci_La_107 (hS.1.1 0 _ rfl) ⟨by decide, rfl⟩ rfl (Nat.le_of_ble_eq_true rfl) ⟨(Nat.le_of_ble_eq_true rfl), (Nat.le_of_ble_eq_true rfl)⟩ ⟨by omega, by omega⟩ rfl (ct_TC_transaction0 (z := 0) hS h0 ?_)
    show jj_ _ _ _ _ _ _ _ _ _ _ _ 699 _ [.int (-1)] M
    refine jj_aload_n 2 dd_La_law_699 rfl ?_
    refine jj_aload_n 4 dd_La_law_700 rfl ?_
    refine jj_iload 0 dd_La_law_701 rfl ?_
    refine jj_iconst (v := 1) dd_La_law_703 rfl ?_
    refine jj_iadd dd_La_law_704 ?_
    refine jj_ti (x' := nI (1 + 4 * n + 1)) (nI_add (1 + 4 * n) 1) ?_
    refine jj_sald hG dd_La_law_705 (vp_in_nI (by omega) (by omega)) (1 + 4 * n + 1) (nI_clamp (by omega)) ?_
    refine jj_aload_n 4 dd_La_law_706 rfl ?_
    refine jj_iload 0 dd_La_law_707 rfl ?_
    refine jj_iconst (v := 2) dd_La_law_709 rfl ?_
    refine jj_iadd dd_La_law_710 ?_
    refine jj_ti (x' := nI (1 + 4 * n + 2)) (nI_add (1 + 4 * n) 2) ?_
    refine jj_sald hG dd_La_law_711 (vp_in_nI (by omega) (by omega)) (1 + 4 * n + 2) (nI_clamp (by omega)) ?_
    refine jj_callV (ci := 7) [_, _] [_] (4 * k) (22 * k) dd_La_law_712 cs_La_110 ci_La_110 (hS.1.1 60 _ rfl) ⟨by decide, rfl⟩ rfl (Nat.le_of_ble_eq_true rfl) ⟨(Nat.le_of_ble_eq_true rfl), (Nat.le_of_ble_eq_true rfl)⟩ ⟨by omega, by omega⟩ rfl (cs_use (cs_Mo_transaction0 rfl (Or.inl (vo_ (n := 3) (by decide) h0)) (fun M3 hS3 => ?_)) hS)
    refine jj_icmp_eq (tgt := 868) dd_La_law_715 (by decide) (fun _ => ?_) (fun h => absurd rfl h)
    exact nxt _ _ hS3 (inv_0 hI)
set_option maxRecDepth 20000 in
theorem lc_lock {l : Launch} (hfl : l.flags = pinnedFlags ++ [noTraceFlag]) {G : mm_G} {A : Nat → Prop} {b L n k : Nat} {xs : Nat → Int32} {g : Nat → Nat} {S : ss_} {M : mm_M} (hG : sk_ G b L xs) (hn : n < 512) (hL : 4 + 4 * n < L) (hL2 : L ≤ 2049) (hS : rp_ g M S) (hI : inv_ n S) (nxt : ∀ S1 M1, rp_ g M1 S1 → inv_ (n + 1) S1 → jj_ l yy_La_law code 7 (some .boolean) G room_1 A (mm_ret (fun v _ => v = some (.int 1))) (4 * k) (22 * k) 868 [(4, .int (nI (1 + 4 * n))), (3, .ref (g 100)), (2, .ref (g 60)), (1, .ref (g 0)), (0, .ref b)] [] M1) : jj_ l yy_La_law code 7 (some .boolean) G room_1 A (mm_ret (fun v _ => v = some (.int 1))) (4 * (k + 1)) (22 * (k + 1)) 720 [(4, .int (nI (1 + 4 * n))), (3, .ref (g 100)), (2, .ref (g 60)), (1, .ref (g 0)), (0, .ref b)] [] M := by
  obtain ⟨T, hs0⟩ := hI
  have hI : inv_ n S := ⟨T, hs0⟩
  have hsim : sim_ S.1 S.1 T (1 + 8 * n) (fun _ => n) (2 * n) S (uf_ S.1 60 1 0) := sim_err hs0
  by_cases h0 : vp_in (xs (1 + 4 * n + 1)) 12
  · obtain ⟨i, hi, ei⟩ := xs_c (by decide) h0
    by_cases hy : xs (1 + 4 * n + 2) < 0 ∨ 5 < xs (1 + 4 * n + 2)
    · skip
      refine jj_aload_n 3 dd_La_law_720 rfl ?_
      refine jj_aload_n 4 dd_La_law_721 rfl ?_
      refine jj_iload 0 dd_La_law_722 rfl ?_
      refine jj_iconst (v := 1) dd_La_law_724 rfl ?_
      refine jj_iadd dd_La_law_725 ?_
      refine jj_ti (x' := nI (1 + 4 * n + 1)) (nI_add (1 + 4 * n) 1) ?_
      refine jj_sald hG dd_La_law_726 (vp_in_nI (by omega) (by omega)) (1 + 4 * n + 1) (nI_clamp (by omega)) ?_
      refine jj_ti (x' := nI i) ei ?_
      refine jj_aload_n 4 dd_La_law_727 rfl ?_
      refine jj_iload 0 dd_La_law_728 rfl ?_
      refine jj_iconst (v := 2) dd_La_law_730 rfl ?_
      refine jj_iadd dd_La_law_731 ?_
      refine jj_ti (x' := nI (1 + 4 * n + 2)) (nI_add (1 + 4 * n) 2) ?_
      refine jj_sald hG dd_La_law_732 (vp_in_nI (by omega) (by omega)) (1 + 4 * n + 2) (nI_clamp (by omega)) ?_
      refine jj_callV (ci := 0) [_, _] [] (4 * k) (22 * k) dd_La_law_733 cs_La_111 ci_La_111 (hS.1.1 0 _ rfl) ⟨by decide, rfl⟩ rfl (Nat.le_of_ble_eq_true rfl) ⟨(Nat.le_of_ble_eq_true rfl), (Nat.le_of_ble_eq_true rfl)⟩ ⟨by omega, by omega⟩ rfl (ct_TC_lock hS hi (inv_ci hn hI) ?_)
      have hv : (if S.1 (10 + i / 4) 0 = 0 then (-1 : Int32) else lkR_ S.1 (xs (1 + 4 * n + 2)) (S.2.1 i)) = -1 := by split; rfl; exact lk_out hy
      refine ite_jj (x := -1) hv ?_
      refine jj_aload_n 2 dd_La_law_736 rfl ?_
      refine jj_aload_n 4 dd_La_law_737 rfl ?_
      refine jj_iload 0 dd_La_law_738 rfl ?_
      refine jj_iconst (v := 1) dd_La_law_740 rfl ?_
      refine jj_iadd dd_La_law_741 ?_
      refine jj_ti (x' := nI (1 + 4 * n + 1)) (nI_add (1 + 4 * n) 1) ?_
      refine jj_sald hG dd_La_law_742 (vp_in_nI (by omega) (by omega)) (1 + 4 * n + 1) (nI_clamp (by omega)) ?_
      refine jj_ti (x' := nI i) ei ?_
      refine jj_aload_n 4 dd_La_law_743 rfl ?_
      refine jj_iload 0 dd_La_law_744 rfl ?_
      refine jj_iconst (v := 2) dd_La_law_746 rfl ?_
      refine jj_iadd dd_La_law_747 ?_
      refine jj_ti (x' := nI (1 + 4 * n + 2)) (nI_add (1 + 4 * n) 2) ?_
      refine jj_sald hG dd_La_law_748 (vp_in_nI (by omega) (by omega)) (1 + 4 * n + 2) (nI_clamp (by omega)) ?_
      refine jj_callV (ci := 7) [_, _] [_] (4 * k) (22 * k) dd_La_law_749 cs_La_114 ci_La_114 (hS.1.1 60 _ rfl) ⟨by decide, rfl⟩ rfl (Nat.le_of_ble_eq_true rfl) ⟨(Nat.le_of_ble_eq_true rfl), (Nat.le_of_ble_eq_true rfl)⟩ ⟨by omega, by omega⟩ rfl (cs_use (cs_Mo_lock0 rfl (Or.inr hy) (fun M3 hS3 => ?_)) hS)
      refine jj_icmp_eq (tgt := 868) dd_La_law_752 (by decide) (fun _ => ?_) (fun h => absurd rfl h)
      exact nxt _ _ hS3 (inv_0 hI)
    · skip
      refine jj_aload_n 3 dd_La_law_720 rfl ?_
      refine jj_aload_n 4 dd_La_law_721 rfl ?_
      refine jj_iload 0 dd_La_law_722 rfl ?_
      refine jj_iconst (v := 1) dd_La_law_724 rfl ?_
      refine jj_iadd dd_La_law_725 ?_
      refine jj_ti (x' := nI (1 + 4 * n + 1)) (nI_add (1 + 4 * n) 1) ?_
      refine jj_sald hG dd_La_law_726 (vp_in_nI (by omega) (by omega)) (1 + 4 * n + 1) (nI_clamp (by omega)) ?_
      refine jj_ti (x' := nI i) ei ?_
      refine jj_aload_n 4 dd_La_law_727 rfl ?_
      refine jj_iload 0 dd_La_law_728 rfl ?_
      refine jj_iconst (v := 2) dd_La_law_730 rfl ?_
      refine jj_iadd dd_La_law_731 ?_
      refine jj_ti (x' := nI (1 + 4 * n + 2)) (nI_add (1 + 4 * n) 2) ?_
      refine jj_sald hG dd_La_law_732 (vp_in_nI (by omega) (by omega)) (1 + 4 * n + 2) (nI_clamp (by omega)) ?_
      refine jj_callV (ci := 0) [_, _] [] (4 * k) (22 * k) dd_La_law_733 cs_La_111 ci_La_111 (hS.1.1 0 _ rfl) ⟨by decide, rfl⟩ rfl (Nat.le_of_ble_eq_true rfl) ⟨(Nat.le_of_ble_eq_true rfl), (Nat.le_of_ble_eq_true rfl)⟩ ⟨by omega, by omega⟩ rfl (ct_TC_lock hS hi (inv_ci hn hI) ?_)
      refine ite_jj (x := if S.1 (10 + i / 4) 0 = 0 then (-1 : Int32) else lkR_ S.1 (xs (1 + 4 * n + 2)) (S.2.1 i)) rfl ?_
      refine jj_aload_n 2 dd_La_law_736 rfl ?_
      refine jj_aload_n 4 dd_La_law_737 rfl ?_
      refine jj_iload 0 dd_La_law_738 rfl ?_
      refine jj_iconst (v := 1) dd_La_law_740 rfl ?_
      refine jj_iadd dd_La_law_741 ?_
      refine jj_ti (x' := nI (1 + 4 * n + 1)) (nI_add (1 + 4 * n) 1) ?_
      refine jj_sald hG dd_La_law_742 (vp_in_nI (by omega) (by omega)) (1 + 4 * n + 1) (nI_clamp (by omega)) ?_
      refine jj_ti (x' := nI i) ei ?_
      refine jj_aload_n 4 dd_La_law_743 rfl ?_
      refine jj_iload 0 dd_La_law_744 rfl ?_
      refine jj_iconst (v := 2) dd_La_law_746 rfl ?_
      refine jj_iadd dd_La_law_747 ?_
      refine jj_ti (x' := nI (1 + 4 * n + 2)) (nI_add (1 + 4 * n) 2) ?_
      refine jj_sald hG dd_La_law_748 (vp_in_nI (by omega) (by omega)) (1 + 4 * n + 2) (nI_clamp (by omega)) ?_
      refine jj_callV (ci := 7) [_, _] [_] (4 * k) (22 * k) dd_La_law_749 cs_La_114 ci_La_114 (hS.1.1 60 _ rfl) ⟨by decide, rfl⟩ rfl (Nat.le_of_ble_eq_true rfl) ⟨(Nat.le_of_ble_eq_true rfl), (Nat.le_of_ble_eq_true rfl)⟩ ⟨by omega, by omega⟩ rfl (cs_use (cs_Mo_lock rfl hi (show ok_ (uf_ S.1 60 1 0) from hsim.2.2.2.1) (fun h => hy (Or.inl h)) (fun h => hy (Or.inr h)) (lk_eq hsim hi (fun h => hy (Or.inl h)) (fun h => hy (Or.inr h)) (fun M3 hS3 => ?_))) hS)
      refine jj_icmp_eq (tgt := 868) dd_La_law_752 (by decide) (fun _ => ?_) (fun h => absurd rfl h)
      exact nxt _ _ hS3 (inv_0 hI)
  · skip
    refine jj_aload_n 3 dd_La_law_720 rfl ?_
    refine jj_aload_n 4 dd_La_law_721 rfl ?_
    refine jj_iload 0 dd_La_law_722 rfl ?_
    refine jj_iconst (v := 1) dd_La_law_724 rfl ?_
    refine jj_iadd dd_La_law_725 ?_
    refine jj_ti (x' := nI (1 + 4 * n + 1)) (nI_add (1 + 4 * n) 1) ?_
    refine jj_sald hG dd_La_law_726 (vp_in_nI (by omega) (by omega)) (1 + 4 * n + 1) (nI_clamp (by omega)) ?_
    refine jj_aload_n 4 dd_La_law_727 rfl ?_
    refine jj_iload 0 dd_La_law_728 rfl ?_
    refine jj_iconst (v := 2) dd_La_law_730 rfl ?_
    refine jj_iadd dd_La_law_731 ?_
    refine jj_ti (x' := nI (1 + 4 * n + 2)) (nI_add (1 + 4 * n) 2) ?_
    refine jj_sald hG dd_La_law_732 (vp_in_nI (by omega) (by omega)) (1 + 4 * n + 2) (nI_clamp (by omega)) ?_
    refine jj_callV (ci := 0) [_, _] [] (4 * k) (22 * k) dd_La_law_733 cs_La_111 ci_La_111 (hS.1.1 0 _ rfl) ⟨by decide, rfl⟩ rfl (Nat.le_of_ble_eq_true rfl) ⟨(Nat.le_of_ble_eq_true rfl), (Nat.le_of_ble_eq_true rfl)⟩ ⟨by omega, by omega⟩ rfl (ct_TC_lock0 (z := 0) hS h0 ?_)
    show jj_ _ _ _ _ _ _ _ _ _ _ _ 736 _ [.int (-1)] M
    refine jj_aload_n 2 dd_La_law_736 rfl ?_
    refine jj_aload_n 4 dd_La_law_737 rfl ?_
    refine jj_iload 0 dd_La_law_738 rfl ?_
    refine jj_iconst (v := 1) dd_La_law_740 rfl ?_
    refine jj_iadd dd_La_law_741 ?_
    refine jj_ti (x' := nI (1 + 4 * n + 1)) (nI_add (1 + 4 * n) 1) ?_
    refine jj_sald hG dd_La_law_742 (vp_in_nI (by omega) (by omega)) (1 + 4 * n + 1) (nI_clamp (by omega)) ?_
    refine jj_aload_n 4 dd_La_law_743 rfl ?_
    refine jj_iload 0 dd_La_law_744 rfl ?_
    refine jj_iconst (v := 2) dd_La_law_746 rfl ?_
    refine jj_iadd dd_La_law_747 ?_
    refine jj_ti (x' := nI (1 + 4 * n + 2)) (nI_add (1 + 4 * n) 2) ?_
    refine jj_sald hG dd_La_law_748 (vp_in_nI (by omega) (by omega)) (1 + 4 * n + 2) (nI_clamp (by omega)) ?_
    refine jj_callV (ci := 7) [_, _] [_] (4 * k) (22 * k) dd_La_law_749 cs_La_114 ci_La_114 (hS.1.1 60 _ rfl) ⟨by decide, rfl⟩ rfl (Nat.le_of_ble_eq_true rfl) ⟨(Nat.le_of_ble_eq_true rfl), (Nat.le_of_ble_eq_true rfl)⟩ ⟨by omega, by omega⟩ rfl (cs_use (cs_Mo_lock0 rfl (Or.inl (vo_ (n := 11) (by decide) h0)) (fun M3 hS3 => ?_)) hS)
    refine jj_icmp_eq (tgt := 868) dd_La_law_752 (by decide) (fun _ => ?_) (fun h => absurd rfl h)
    exact nxt _ _ hS3 (inv_0 hI)
set_option maxRecDepth 20000 in
theorem lc_record {l : Launch} (hfl : l.flags = pinnedFlags ++ [noTraceFlag]) {G : mm_G} {A : Nat → Prop} {b L n k : Nat} {xs : Nat → Int32} {g : Nat → Nat} {S : ss_} {M : mm_M} (hG : sk_ G b L xs) (hn : n < 512) (hL : 4 + 4 * n < L) (hL2 : L ≤ 2049) (hS : rp_ g M S) (hI : inv_ n S) (nxt : ∀ S1 M1, rp_ g M1 S1 → inv_ (n + 1) S1 → jj_ l yy_La_law code 7 (some .boolean) G room_1 A (mm_ret (fun v _ => v = some (.int 1))) (4 * k) (22 * k) 868 [(4, .int (nI (1 + 4 * n))), (3, .ref (g 100)), (2, .ref (g 60)), (1, .ref (g 0)), (0, .ref b)] [] M1) : jj_ l yy_La_law code 7 (some .boolean) G room_1 A (mm_ret (fun v _ => v = some (.int 1))) (4 * (k + 1)) (22 * (k + 1)) 757 [(4, .int (nI (1 + 4 * n))), (3, .ref (g 100)), (2, .ref (g 60)), (1, .ref (g 0)), (0, .ref b)] [] M := by
  obtain ⟨T, hs0⟩ := hI
  have hI : inv_ n S := ⟨T, hs0⟩
  have hsim : sim_ S.1 S.1 T (1 + 8 * n) (fun _ => n) (2 * n) S (uf_ S.1 60 1 0) := sim_err hs0
  by_cases h0 : vp_in (xs (1 + 4 * n + 1)) 12
  · obtain ⟨i, hi, ei⟩ := xs_c (by decide) h0
    by_cases hk : xs (1 + 4 * n + 2) < 0
    · skip
      refine jj_aload_n 3 dd_La_law_757 rfl ?_
      refine jj_aload_n 4 dd_La_law_758 rfl ?_
      refine jj_iload 0 dd_La_law_759 rfl ?_
      refine jj_iconst (v := 1) dd_La_law_761 rfl ?_
      refine jj_iadd dd_La_law_762 ?_
      refine jj_ti (x' := nI (1 + 4 * n + 1)) (nI_add (1 + 4 * n) 1) ?_
      refine jj_sald hG dd_La_law_763 (vp_in_nI (by omega) (by omega)) (1 + 4 * n + 1) (nI_clamp (by omega)) ?_
      refine jj_ti (x' := nI i) ei ?_
      refine jj_aload_n 4 dd_La_law_764 rfl ?_
      refine jj_iload 0 dd_La_law_765 rfl ?_
      refine jj_iconst (v := 2) dd_La_law_767 rfl ?_
      refine jj_iadd dd_La_law_768 ?_
      refine jj_ti (x' := nI (1 + 4 * n + 2)) (nI_add (1 + 4 * n) 2) ?_
      refine jj_sald hG dd_La_law_769 (vp_in_nI (by omega) (by omega)) (1 + 4 * n + 2) (nI_clamp (by omega)) ?_
      refine jj_aload_n 4 dd_La_law_770 rfl ?_
      refine jj_iload 0 dd_La_law_771 rfl ?_
      refine jj_iconst (v := 3) dd_La_law_773 rfl ?_
      refine jj_iadd dd_La_law_774 ?_
      refine jj_ti (x' := nI (1 + 4 * n + 3)) (nI_add (1 + 4 * n) 3) ?_
      refine jj_sald hG dd_La_law_775 (vp_in_nI (by omega) (by omega)) (1 + 4 * n + 3) (nI_clamp (by omega)) ?_
      refine jj_callV (ci := 0) [_, _, _] [] (4 * k) (22 * k) dd_La_law_776 cs_La_115 ci_La_115 (hS.1.1 0 _ rfl) ⟨by decide, rfl⟩ rfl (Nat.le_of_ble_eq_true rfl) ⟨(Nat.le_of_ble_eq_true rfl), (Nat.le_of_ble_eq_true rfl)⟩ ⟨by omega, by omega⟩ rfl (ct_TC_record1 hS hi hk ?_)
      show jj_ _ _ _ _ _ _ _ _ _ _ _ 779 _ [.int (-1)] M
      refine jj_aload_n 2 dd_La_law_779 rfl ?_
      refine jj_aload_n 4 dd_La_law_780 rfl ?_
      refine jj_iload 0 dd_La_law_781 rfl ?_
      refine jj_iconst (v := 1) dd_La_law_783 rfl ?_
      refine jj_iadd dd_La_law_784 ?_
      refine jj_ti (x' := nI (1 + 4 * n + 1)) (nI_add (1 + 4 * n) 1) ?_
      refine jj_sald hG dd_La_law_785 (vp_in_nI (by omega) (by omega)) (1 + 4 * n + 1) (nI_clamp (by omega)) ?_
      refine jj_ti (x' := nI i) ei ?_
      refine jj_aload_n 4 dd_La_law_786 rfl ?_
      refine jj_iload 0 dd_La_law_787 rfl ?_
      refine jj_iconst (v := 2) dd_La_law_789 rfl ?_
      refine jj_iadd dd_La_law_790 ?_
      refine jj_ti (x' := nI (1 + 4 * n + 2)) (nI_add (1 + 4 * n) 2) ?_
      refine jj_sald hG dd_La_law_791 (vp_in_nI (by omega) (by omega)) (1 + 4 * n + 2) (nI_clamp (by omega)) ?_
      refine jj_aload_n 4 dd_La_law_792 rfl ?_
      refine jj_iload 0 dd_La_law_793 rfl ?_
      refine jj_iconst (v := 3) dd_La_law_795 rfl ?_
      refine jj_iadd dd_La_law_796 ?_
      refine jj_ti (x' := nI (1 + 4 * n + 3)) (nI_add (1 + 4 * n) 3) ?_
      refine jj_sald hG dd_La_law_797 (vp_in_nI (by omega) (by omega)) (1 + 4 * n + 3) (nI_clamp (by omega)) ?_
      refine jj_callV (ci := 7) [_, _, _] [_] (4 * k) (22 * k) dd_La_law_798 cs_La_119 ci_La_119 (hS.1.1 60 _ rfl) ⟨by decide, rfl⟩ rfl (Nat.le_of_ble_eq_true rfl) ⟨(Nat.le_of_ble_eq_true rfl), (Nat.le_of_ble_eq_true rfl)⟩ ⟨by omega, by omega⟩ rfl (cs_use (cs_Mo_record0 rfl (Or.inr (Or.inl hk)) (fun M3 hS3 => ?_)) hS)
      refine jj_icmp_eq (tgt := 868) dd_La_law_801 (by decide) (fun _ => ?_) (fun h => absurd rfl h)
      exact nxt _ _ hS3 (inv_0 hI)
    · obtain ⟨m, hm, em⟩ := nI_of hk
      by_cases hy : xs (1 + 4 * n + 3) < 0 ∨ 3 < xs (1 + 4 * n + 3)
      · skip
        refine jj_aload_n 3 dd_La_law_757 rfl ?_
        refine jj_aload_n 4 dd_La_law_758 rfl ?_
        refine jj_iload 0 dd_La_law_759 rfl ?_
        refine jj_iconst (v := 1) dd_La_law_761 rfl ?_
        refine jj_iadd dd_La_law_762 ?_
        refine jj_ti (x' := nI (1 + 4 * n + 1)) (nI_add (1 + 4 * n) 1) ?_
        refine jj_sald hG dd_La_law_763 (vp_in_nI (by omega) (by omega)) (1 + 4 * n + 1) (nI_clamp (by omega)) ?_
        refine jj_ti (x' := nI i) ei ?_
        refine jj_aload_n 4 dd_La_law_764 rfl ?_
        refine jj_iload 0 dd_La_law_765 rfl ?_
        refine jj_iconst (v := 2) dd_La_law_767 rfl ?_
        refine jj_iadd dd_La_law_768 ?_
        refine jj_ti (x' := nI (1 + 4 * n + 2)) (nI_add (1 + 4 * n) 2) ?_
        refine jj_sald hG dd_La_law_769 (vp_in_nI (by omega) (by omega)) (1 + 4 * n + 2) (nI_clamp (by omega)) ?_
        refine jj_ti (x' := nI m) em ?_
        refine jj_aload_n 4 dd_La_law_770 rfl ?_
        refine jj_iload 0 dd_La_law_771 rfl ?_
        refine jj_iconst (v := 3) dd_La_law_773 rfl ?_
        refine jj_iadd dd_La_law_774 ?_
        refine jj_ti (x' := nI (1 + 4 * n + 3)) (nI_add (1 + 4 * n) 3) ?_
        refine jj_sald hG dd_La_law_775 (vp_in_nI (by omega) (by omega)) (1 + 4 * n + 3) (nI_clamp (by omega)) ?_
        refine jj_callV (ci := 0) [_, _, _] [] (4 * k) (22 * k) dd_La_law_776 cs_La_115 ci_La_115 (hS.1.1 0 _ rfl) ⟨by decide, rfl⟩ rfl (Nat.le_of_ble_eq_true rfl) ⟨(Nat.le_of_ble_eq_true rfl), (Nat.le_of_ble_eq_true rfl)⟩ ⟨by omega, by omega⟩ rfl (ct_TC_record hS hi hm ?_)
        have hv : (if S.1 (10 + i / 4) 0 = 0 then (-1 : Int32) else vvR_ (xs (1 + 4 * n + 3)) (vat_ m (S.2.2 i))) = -1 := by split; rfl; exact vv_out hy
        refine ite_jj (x := -1) hv ?_
        refine jj_aload_n 2 dd_La_law_779 rfl ?_
        refine jj_aload_n 4 dd_La_law_780 rfl ?_
        refine jj_iload 0 dd_La_law_781 rfl ?_
        refine jj_iconst (v := 1) dd_La_law_783 rfl ?_
        refine jj_iadd dd_La_law_784 ?_
        refine jj_ti (x' := nI (1 + 4 * n + 1)) (nI_add (1 + 4 * n) 1) ?_
        refine jj_sald hG dd_La_law_785 (vp_in_nI (by omega) (by omega)) (1 + 4 * n + 1) (nI_clamp (by omega)) ?_
        refine jj_ti (x' := nI i) ei ?_
        refine jj_aload_n 4 dd_La_law_786 rfl ?_
        refine jj_iload 0 dd_La_law_787 rfl ?_
        refine jj_iconst (v := 2) dd_La_law_789 rfl ?_
        refine jj_iadd dd_La_law_790 ?_
        refine jj_ti (x' := nI (1 + 4 * n + 2)) (nI_add (1 + 4 * n) 2) ?_
        refine jj_sald hG dd_La_law_791 (vp_in_nI (by omega) (by omega)) (1 + 4 * n + 2) (nI_clamp (by omega)) ?_
        refine jj_ti (x' := nI m) em ?_
        refine jj_aload_n 4 dd_La_law_792 rfl ?_
        refine jj_iload 0 dd_La_law_793 rfl ?_
        refine jj_iconst (v := 3) dd_La_law_795 rfl ?_
        refine jj_iadd dd_La_law_796 ?_
        refine jj_ti (x' := nI (1 + 4 * n + 3)) (nI_add (1 + 4 * n) 3) ?_
        refine jj_sald hG dd_La_law_797 (vp_in_nI (by omega) (by omega)) (1 + 4 * n + 3) (nI_clamp (by omega)) ?_
        refine jj_callV (ci := 7) [_, _, _] [_] (4 * k) (22 * k) dd_La_law_798 cs_La_119 ci_La_119 (hS.1.1 60 _ rfl) ⟨by decide, rfl⟩ rfl (Nat.le_of_ble_eq_true rfl) ⟨(Nat.le_of_ble_eq_true rfl), (Nat.le_of_ble_eq_true rfl)⟩ ⟨by omega, by omega⟩ rfl (cs_use (cs_Mo_record0 rfl (Or.inr (Or.inr hy)) (fun M3 hS3 => ?_)) hS)
        refine jj_icmp_eq (tgt := 868) dd_La_law_801 (by decide) (fun _ => ?_) (fun h => absurd rfl h)
        exact nxt _ _ hS3 (inv_0 hI)
      · skip
        refine jj_aload_n 3 dd_La_law_757 rfl ?_
        refine jj_aload_n 4 dd_La_law_758 rfl ?_
        refine jj_iload 0 dd_La_law_759 rfl ?_
        refine jj_iconst (v := 1) dd_La_law_761 rfl ?_
        refine jj_iadd dd_La_law_762 ?_
        refine jj_ti (x' := nI (1 + 4 * n + 1)) (nI_add (1 + 4 * n) 1) ?_
        refine jj_sald hG dd_La_law_763 (vp_in_nI (by omega) (by omega)) (1 + 4 * n + 1) (nI_clamp (by omega)) ?_
        refine jj_ti (x' := nI i) ei ?_
        refine jj_aload_n 4 dd_La_law_764 rfl ?_
        refine jj_iload 0 dd_La_law_765 rfl ?_
        refine jj_iconst (v := 2) dd_La_law_767 rfl ?_
        refine jj_iadd dd_La_law_768 ?_
        refine jj_ti (x' := nI (1 + 4 * n + 2)) (nI_add (1 + 4 * n) 2) ?_
        refine jj_sald hG dd_La_law_769 (vp_in_nI (by omega) (by omega)) (1 + 4 * n + 2) (nI_clamp (by omega)) ?_
        refine jj_ti (x' := nI m) em ?_
        refine jj_aload_n 4 dd_La_law_770 rfl ?_
        refine jj_iload 0 dd_La_law_771 rfl ?_
        refine jj_iconst (v := 3) dd_La_law_773 rfl ?_
        refine jj_iadd dd_La_law_774 ?_
        refine jj_ti (x' := nI (1 + 4 * n + 3)) (nI_add (1 + 4 * n) 3) ?_
        refine jj_sald hG dd_La_law_775 (vp_in_nI (by omega) (by omega)) (1 + 4 * n + 3) (nI_clamp (by omega)) ?_
        refine jj_callV (ci := 0) [_, _, _] [] (4 * k) (22 * k) dd_La_law_776 cs_La_115 ci_La_115 (hS.1.1 0 _ rfl) ⟨by decide, rfl⟩ rfl (Nat.le_of_ble_eq_true rfl) ⟨(Nat.le_of_ble_eq_true rfl), (Nat.le_of_ble_eq_true rfl)⟩ ⟨by omega, by omega⟩ rfl (ct_TC_record hS hi hm ?_)
        refine ite_jj (x := if S.1 (10 + i / 4) 0 = 0 then (-1 : Int32) else vvR_ (xs (1 + 4 * n + 3)) (vat_ m (S.2.2 i))) rfl ?_
        refine jj_aload_n 2 dd_La_law_779 rfl ?_
        refine jj_aload_n 4 dd_La_law_780 rfl ?_
        refine jj_iload 0 dd_La_law_781 rfl ?_
        refine jj_iconst (v := 1) dd_La_law_783 rfl ?_
        refine jj_iadd dd_La_law_784 ?_
        refine jj_ti (x' := nI (1 + 4 * n + 1)) (nI_add (1 + 4 * n) 1) ?_
        refine jj_sald hG dd_La_law_785 (vp_in_nI (by omega) (by omega)) (1 + 4 * n + 1) (nI_clamp (by omega)) ?_
        refine jj_ti (x' := nI i) ei ?_
        refine jj_aload_n 4 dd_La_law_786 rfl ?_
        refine jj_iload 0 dd_La_law_787 rfl ?_
        refine jj_iconst (v := 2) dd_La_law_789 rfl ?_
        refine jj_iadd dd_La_law_790 ?_
        refine jj_ti (x' := nI (1 + 4 * n + 2)) (nI_add (1 + 4 * n) 2) ?_
        refine jj_sald hG dd_La_law_791 (vp_in_nI (by omega) (by omega)) (1 + 4 * n + 2) (nI_clamp (by omega)) ?_
        refine jj_ti (x' := nI m) em ?_
        refine jj_aload_n 4 dd_La_law_792 rfl ?_
        refine jj_iload 0 dd_La_law_793 rfl ?_
        refine jj_iconst (v := 3) dd_La_law_795 rfl ?_
        refine jj_iadd dd_La_law_796 ?_
        refine jj_ti (x' := nI (1 + 4 * n + 3)) (nI_add (1 + 4 * n) 3) ?_
        refine jj_sald hG dd_La_law_797 (vp_in_nI (by omega) (by omega)) (1 + 4 * n + 3) (nI_clamp (by omega)) ?_
        have hr : uf_ S.1 60 1 0 60 11 = nI (rec_ (uf_ S.1 60 1 0)) := hsim.2.2.2.2.2.2.2.1
        have hr2 : rec_ (uf_ S.1 60 1 0) ≤ 2 * n := hsim.2.2.2.2.2.2.2.2
        refine jj_callV (ci := 7) [_, _, _] [_] (4 * k) (22 * k) dd_La_law_798 cs_La_119 ci_La_119 (hS.1.1 60 _ rfl) ⟨by decide, rfl⟩ rfl (Nat.le_of_ble_eq_true rfl) ⟨(Nat.le_of_ble_eq_true rfl), (Nat.le_of_ble_eq_true rfl)⟩ ⟨by omega, by omega⟩ rfl (cs_use (cs_Mo_record rfl hi (nI_pos hm) (fun h => hy (Or.inl h)) (fun h => hy (Or.inr h)) hr (show rec_ (uf_ S.1 60 1 0) ≤ 1540 by omega) (ra_eq (K := fun r F => ∀ M', rp_ g M' (F, S.2) → jj_ l yy_La_law code 7 (some .boolean) G room_1 A (mm_ret (fun v _ => v = some (.int 1))) (4 * k) (22 * k) 801 [(4, .int (nI (1 + 4 * n))), (3, .ref (g 100)), (2, .ref (g 60)), (1, .ref (g 0)), (0, .ref b)] [.int r, .int (if S.1 (10 + i / 4) 0 = 0 then (-1 : Int32) else vvR_ (xs (1 + 4 * n + 3)) (vat_ m (S.2.2 i)))] M') hsim (by omega) (show n < 600 by omega) hi hm (fun h => hy (Or.inl h)) (fun h => hy (Or.inr h)) (fun M3 hS3 => ?_))) hS)
        refine jj_icmp_eq (tgt := 868) dd_La_law_801 (by decide) (fun _ => ?_) (fun h => absurd rfl h)
        exact nxt _ _ hS3 (inv_0 hI)
  · skip
    refine jj_aload_n 3 dd_La_law_757 rfl ?_
    refine jj_aload_n 4 dd_La_law_758 rfl ?_
    refine jj_iload 0 dd_La_law_759 rfl ?_
    refine jj_iconst (v := 1) dd_La_law_761 rfl ?_
    refine jj_iadd dd_La_law_762 ?_
    refine jj_ti (x' := nI (1 + 4 * n + 1)) (nI_add (1 + 4 * n) 1) ?_
    refine jj_sald hG dd_La_law_763 (vp_in_nI (by omega) (by omega)) (1 + 4 * n + 1) (nI_clamp (by omega)) ?_
    refine jj_aload_n 4 dd_La_law_764 rfl ?_
    refine jj_iload 0 dd_La_law_765 rfl ?_
    refine jj_iconst (v := 2) dd_La_law_767 rfl ?_
    refine jj_iadd dd_La_law_768 ?_
    refine jj_ti (x' := nI (1 + 4 * n + 2)) (nI_add (1 + 4 * n) 2) ?_
    refine jj_sald hG dd_La_law_769 (vp_in_nI (by omega) (by omega)) (1 + 4 * n + 2) (nI_clamp (by omega)) ?_
    refine jj_aload_n 4 dd_La_law_770 rfl ?_
    refine jj_iload 0 dd_La_law_771 rfl ?_
    refine jj_iconst (v := 3) dd_La_law_773 rfl ?_
    refine jj_iadd dd_La_law_774 ?_
    refine jj_ti (x' := nI (1 + 4 * n + 3)) (nI_add (1 + 4 * n) 3) ?_
    refine jj_sald hG dd_La_law_775 (vp_in_nI (by omega) (by omega)) (1 + 4 * n + 3) (nI_clamp (by omega)) ?_
    refine jj_callV (ci := 0) [_, _, _] [] (4 * k) (22 * k) dd_La_law_776 cs_La_115 ci_La_115 (hS.1.1 0 _ rfl) ⟨by decide, rfl⟩ rfl (Nat.le_of_ble_eq_true rfl) ⟨(Nat.le_of_ble_eq_true rfl), (Nat.le_of_ble_eq_true rfl)⟩ ⟨by omega, by omega⟩ rfl (ct_TC_record0 hS h0 ?_)
    show jj_ _ _ _ _ _ _ _ _ _ _ _ 779 _ [.int (-1)] M
    refine jj_aload_n 2 dd_La_law_779 rfl ?_
    refine jj_aload_n 4 dd_La_law_780 rfl ?_
    refine jj_iload 0 dd_La_law_781 rfl ?_
    refine jj_iconst (v := 1) dd_La_law_783 rfl ?_
    refine jj_iadd dd_La_law_784 ?_
    refine jj_ti (x' := nI (1 + 4 * n + 1)) (nI_add (1 + 4 * n) 1) ?_
    refine jj_sald hG dd_La_law_785 (vp_in_nI (by omega) (by omega)) (1 + 4 * n + 1) (nI_clamp (by omega)) ?_
    refine jj_aload_n 4 dd_La_law_786 rfl ?_
    refine jj_iload 0 dd_La_law_787 rfl ?_
    refine jj_iconst (v := 2) dd_La_law_789 rfl ?_
    refine jj_iadd dd_La_law_790 ?_
    refine jj_ti (x' := nI (1 + 4 * n + 2)) (nI_add (1 + 4 * n) 2) ?_
    refine jj_sald hG dd_La_law_791 (vp_in_nI (by omega) (by omega)) (1 + 4 * n + 2) (nI_clamp (by omega)) ?_
    refine jj_aload_n 4 dd_La_law_792 rfl ?_
    refine jj_iload 0 dd_La_law_793 rfl ?_
    refine jj_iconst (v := 3) dd_La_law_795 rfl ?_
    refine jj_iadd dd_La_law_796 ?_
    refine jj_ti (x' := nI (1 + 4 * n + 3)) (nI_add (1 + 4 * n) 3) ?_
    refine jj_sald hG dd_La_law_797 (vp_in_nI (by omega) (by omega)) (1 + 4 * n + 3) (nI_clamp (by omega)) ?_
    refine jj_callV (ci := 7) [_, _, _] [_] (4 * k) (22 * k) dd_La_law_798 cs_La_119 ci_La_119 (hS.1.1 60 _ rfl) ⟨by decide, rfl⟩ rfl (Nat.le_of_ble_eq_true rfl) ⟨(Nat.le_of_ble_eq_true rfl), (Nat.le_of_ble_eq_true rfl)⟩ ⟨by omega, by omega⟩ rfl (cs_use (cs_Mo_record0 rfl (Or.inl (vo_ (n := 11) (by decide) h0)) (fun M3 hS3 => ?_)) hS)
    refine jj_icmp_eq (tgt := 868) dd_La_law_801 (by decide) (fun _ => ?_) (fun h => absurd rfl h)
    exact nxt _ _ hS3 (inv_0 hI)
