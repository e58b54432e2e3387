set_option maxRecDepth 20000 in
theorem lc_kill {l : Launch} (hfl : l.flags = pinnedFlags ++ [noTraceFlag]) {G : mm_G} {A : Nat → Prop} {b L n k : Nat} {xs : Nat → Int32} {g : Nat → Nat} {S : ss_} {M : mm_M} (hG : sk_ G b L xs) (hn : n < 512) (hL : 4 + 4 * n < L) (hL2 : L ≤ 2049) (hS : rp_ g M S) (hI : inv_ n S) (nxt : ∀ S1 M1, rp_ g M1 S1 → inv_ (n + 1) S1 → jj_ l yy_La_law code 7 (some .boolean) G room_1 A (mm_ret (fun v _ => v = some (.int 1))) (4 * k) (22 * k) 868 [(4, .int (nI (1 + 4 * n))), (3, .ref (g 100)), (2, .ref (g 60)), (1, .ref (g 0)), (0, .ref b)] [] M1) : jj_ l yy_La_law code 7 (some .boolean) G room_1 A (mm_ret (fun v _ => v = some (.int 1))) (4 * (k + 1)) (22 * (k + 1)) 424 [(4, .int (nI (1 + 4 * n))), (3, .ref (g 100)), (2, .ref (g 60)), (1, .ref (g 0)), (0, .ref b)] [] M := by
  by_cases h0 : vp_in (xs (1 + 4 * n + 1)) 4
  · obtain ⟨c, hc, ec⟩ := xs_c (by decide) h0
    refine jj_aload_n 3 dd_La_law_424 rfl ?_
    refine jj_aload_n 4 dd_La_law_425 rfl ?_
    refine jj_iload 0 dd_La_law_426 rfl ?_
    refine jj_iconst (v := 1) dd_La_law_428 rfl ?_
    refine jj_iadd dd_La_law_429 ?_
    refine jj_ti (x' := nI (1 + 4 * n + 1)) (nI_add (1 + 4 * n) 1) ?_
    refine jj_sald hG dd_La_law_430 (vp_in_nI (by omega) (by omega)) (1 + 4 * n + 1) (nI_clamp (by omega)) ?_
    refine jj_ti (x' := nI c) ec ?_
    refine jj_callV (ci := 0) [_] [] (4 * k) (22 * k) dd_La_law_431 cs_La_74 ci_La_74 (hS.1.1 0 _ rfl) ⟨by decide, rfl⟩ rfl (Nat.le_of_ble_eq_true rfl) ⟨(Nat.le_of_ble_eq_true rfl), (Nat.le_of_ble_eq_true rfl)⟩ ⟨by omega, by omega⟩ rfl (ct_TC_kill hS hc ?_)
    refine dt2_mono dt_ki (top_ dt_ki (op_ki hc) (by omega) hI) (fun r S1 hx M1 hS1 => ?_)
    obtain ⟨_, ht⟩ := hx
    obtain ⟨r', F1, ev, hm, hrow, hI1, T, hsim⟩ := ht S1.1 (fun _ _ _ => rfl)
    have hrr : r = r' := by
      rcases hm with ⟨_, _, a⟩ | ⟨a, _⟩
      · exact a
      · exact absurd rfl a
    refine jj_aload_n 2 dd_La_law_434 rfl ?_
    refine jj_aload_n 4 dd_La_law_435 rfl ?_
    refine jj_iload 0 dd_La_law_436 rfl ?_
    refine jj_iconst (v := 1) dd_La_law_438 rfl ?_
    refine jj_iadd dd_La_law_439 ?_
    refine jj_ti (x' := nI (1 + 4 * n + 1)) (nI_add (1 + 4 * n) 1) ?_
    refine jj_sald hG dd_La_law_440 (vp_in_nI (by omega) (by omega)) (1 + 4 * n + 1) (nI_clamp (by omega)) ?_
    refine jj_ti (x' := nI c) ec ?_
    refine jj_callV (ci := 7) [_] [_] (4 * k) (22 * k) dd_La_law_441 cs_La_78 ci_La_78 (hS1.1.1 60 _ rfl) ⟨by decide, rfl⟩ rfl (Nat.le_of_ble_eq_true rfl) ⟨(Nat.le_of_ble_eq_true rfl), (Nat.le_of_ble_eq_true rfl)⟩ ⟨by omega, by omega⟩ rfl (cs_use (cs_Mo_kill rfl hc ?_) hS1)
    have ev2 : ∀ K', K' r' F1 → ki_ (uf_ S1.1 60 1 0) c K' := ev
    show ki_ (uf_ S1.1 60 1 0) c _
    generalize ki_ (uf_ S1.1 60 1 0) c = WW at ev2 ⊢
    refine ev2 _ (fun M3 hS3 => ?_)
    refine jj_icmp_eq (tgt := 868) dd_La_law_444 (by decide) (fun _ => ?_) (fun h => absurd hrr h)
    exact nxt _ _ hS3 hI1
  · skip
    refine jj_aload_n 3 dd_La_law_424 rfl ?_
    refine jj_aload_n 4 dd_La_law_425 rfl ?_
    refine jj_iload 0 dd_La_law_426 rfl ?_
    refine jj_iconst (v := 1) dd_La_law_428 rfl ?_
    refine jj_iadd dd_La_law_429 ?_
    refine jj_ti (x' := nI (1 + 4 * n + 1)) (nI_add (1 + 4 * n) 1) ?_
    refine jj_sald hG dd_La_law_430 (vp_in_nI (by omega) (by omega)) (1 + 4 * n + 1) (nI_clamp (by omega)) ?_
    refine jj_callV (ci := 0) [_] [] (4 * k) (22 * k) dd_La_law_431 cs_La_74 ci_La_74 (hS.1.1 0 _ rfl) ⟨by decide, rfl⟩ rfl (Nat.le_of_ble_eq_true rfl) ⟨(Nat.le_of_ble_eq_true rfl), (Nat.le_of_ble_eq_true rfl)⟩ ⟨by omega, by omega⟩ rfl (ct_TC_kill0 (y := 0) (z := 0) hS h0 ?_)
    show jj_ _ _ _ _ _ _ _ _ _ _ _ 434 _ [.int 0] M
    refine jj_aload_n 2 dd_La_law_434 rfl ?_
    refine jj_aload_n 4 dd_La_law_435 rfl ?_
    refine jj_iload 0 dd_La_law_436 rfl ?_
    refine jj_iconst (v := 1) dd_La_law_438 rfl ?_
    refine jj_iadd dd_La_law_439 ?_
    refine jj_ti (x' := nI (1 + 4 * n + 1)) (nI_add (1 + 4 * n) 1) ?_
    refine jj_sald hG dd_La_law_440 (vp_in_nI (by omega) (by omega)) (1 + 4 * n + 1) (nI_clamp (by omega)) ?_
    refine jj_callV (ci := 7) [_] [_] (4 * k) (22 * k) dd_La_law_441 cs_La_78 ci_La_78 (hS.1.1 60 _ rfl) ⟨by decide, rfl⟩ rfl (Nat.le_of_ble_eq_true rfl) ⟨(Nat.le_of_ble_eq_true rfl), (Nat.le_of_ble_eq_true rfl)⟩ ⟨by omega, by omega⟩ rfl (cs_use (cs_Mo_kill0 rfl (vo_ (n := 3) (by decide) h0) (fun M3 hS3 => ?_)) hS)
    refine jj_icmp_eq (tgt := 868) dd_La_law_444 (by decide) (fun _ => ?_) (fun h => absurd rfl h)
    exact nxt _ _ hS3 (inv_0 hI)
set_option maxRecDepth 20000 in
theorem lc_crash {l : Launch} (hfl : l.flags = pinnedFlags ++ [noTraceFlag]) {G : mm_G} {A : Nat → Prop} {b L n k : Nat} {xs : Nat → Int32} {g : Nat → Nat} {S : ss_} {M : mm_M} (hG : sk_ G b L xs) (hn : n < 512) (hL : 4 + 4 * n < L) (hL2 : L ≤ 2049) (hS : rp_ g M S) (hI : inv_ n S) (nxt : ∀ S1 M1, rp_ g M1 S1 → inv_ (n + 1) S1 → jj_ l yy_La_law code 7 (some .boolean) G room_1 A (mm_ret (fun v _ => v = some (.int 1))) (4 * k) (22 * k) 868 [(4, .int (nI (1 + 4 * n))), (3, .ref (g 100)), (2, .ref (g 60)), (1, .ref (g 0)), (0, .ref b)] [] M1) : jj_ l yy_La_law code 7 (some .boolean) G room_1 A (mm_ret (fun v _ => v = some (.int 1))) (4 * (k + 1)) (22 * (k + 1)) 530 [(4, .int (nI (1 + 4 * n))), (3, .ref (g 100)), (2, .ref (g 60)), (1, .ref (g 0)), (0, .ref b)] [] M := by
  by_cases h0 : vp_in (xs (1 + 4 * n + 1)) 3
  · obtain ⟨t, ht2, et⟩ := xs_c (by decide) h0
    refine jj_aload_n 3 dd_La_law_530 rfl ?_
    refine jj_aload_n 4 dd_La_law_531 rfl ?_
    refine jj_iload 0 dd_La_law_532 rfl ?_
    refine jj_iconst (v := 1) dd_La_law_534 rfl ?_
    refine jj_iadd dd_La_law_535 ?_
    refine jj_ti (x' := nI (1 + 4 * n + 1)) (nI_add (1 + 4 * n) 1) ?_
    refine jj_sald hG dd_La_law_536 (vp_in_nI (by omega) (by omega)) (1 + 4 * n + 1) (nI_clamp (by omega)) ?_
    refine jj_ti (x' := nI t) et ?_
    refine jj_callV (ci := 0) [_] [] (4 * k) (22 * k) dd_La_law_537 cs_La_86 ci_La_86 (hS.1.1 0 _ rfl) ⟨by decide, rfl⟩ rfl (Nat.le_of_ble_eq_true rfl) ⟨(Nat.le_of_ble_eq_true rfl), (Nat.le_of_ble_eq_true rfl)⟩ ⟨by omega, by omega⟩ rfl (ct_TC_crash hS ht2 ?_)
    refine dt2_mono dt_cr (top_ dt_cr (op_cr ht2) (by omega) hI) (fun r S1 hx M1 hS1 => ?_)
    obtain ⟨_, ht⟩ := hx
    obtain ⟨r', F1, ev, hm, hrow, hI1, T, hsim⟩ := ht S1.1 (fun _ _ _ => rfl)
    have hrr : r = r' := by
      rcases hm with ⟨_, _, a⟩ | ⟨a, _⟩
      · exact a
      · exact absurd rfl a
    refine jj_aload_n 2 dd_La_law_540 rfl ?_
    refine jj_aload_n 4 dd_La_law_541 rfl ?_
    refine jj_iload 0 dd_La_law_542 rfl ?_
    refine jj_iconst (v := 1) dd_La_law_544 rfl ?_
    refine jj_iadd dd_La_law_545 ?_
    refine jj_ti (x' := nI (1 + 4 * n + 1)) (nI_add (1 + 4 * n) 1) ?_
    refine jj_sald hG dd_La_law_546 (vp_in_nI (by omega) (by omega)) (1 + 4 * n + 1) (nI_clamp (by omega)) ?_
    refine jj_ti (x' := nI t) et ?_
    refine jj_callV (ci := 7) [_] [_] (4 * k) (22 * k) dd_La_law_547 cs_La_89 ci_La_89 (hS1.1.1 60 _ rfl) ⟨by decide, rfl⟩ rfl (Nat.le_of_ble_eq_true rfl) ⟨(Nat.le_of_ble_eq_true rfl), (Nat.le_of_ble_eq_true rfl)⟩ ⟨by omega, by omega⟩ rfl (cs_use (cs_Mo_crash rfl ht2 ?_) hS1)
    have ev2 : ∀ K', K' r' F1 → cr_ (uf_ S1.1 60 1 0) t K' := ev
    show cr_ (uf_ S1.1 60 1 0) t _
    generalize cr_ (uf_ S1.1 60 1 0) t = WW at ev2 ⊢
    refine ev2 _ (fun M3 hS3 => ?_)
    refine jj_icmp_eq (tgt := 868) dd_La_law_550 (by decide) (fun _ => ?_) (fun h => absurd hrr h)
    exact nxt _ _ hS3 hI1
  · skip
    refine jj_aload_n 3 dd_La_law_530 rfl ?_
    refine jj_aload_n 4 dd_La_law_531 rfl ?_
    refine jj_iload 0 dd_La_law_532 rfl ?_
    refine jj_iconst (v := 1) dd_La_law_534 rfl ?_
    refine jj_iadd dd_La_law_535 ?_
    refine jj_ti (x' := nI (1 + 4 * n + 1)) (nI_add (1 + 4 * n) 1) ?_
    refine jj_sald hG dd_La_law_536 (vp_in_nI (by omega) (by omega)) (1 + 4 * n + 1) (nI_clamp (by omega)) ?_
    refine jj_callV (ci := 0) [_] [] (4 * k) (22 * k) dd_La_law_537 cs_La_86 ci_La_86 (hS.1.1 0 _ rfl) ⟨by decide, rfl⟩ rfl (Nat.le_of_ble_eq_true rfl) ⟨(Nat.le_of_ble_eq_true rfl), (Nat.le_of_ble_eq_true rfl)⟩ ⟨by omega, by omega⟩ rfl (ct_TC_crash0 (y := 0) (z := 0) hS h0 ?_)
    show jj_ _ _ _ _ _ _ _ _ _ _ _ 540 _ [.int 0] M
    refine jj_aload_n 2 dd_La_law_540 rfl ?_
    refine jj_aload_n 4 dd_La_law_541 rfl ?_
    refine jj_iload 0 dd_La_law_542 rfl ?_
    refine jj_iconst (v := 1) dd_La_law_544 rfl ?_
    refine jj_iadd dd_La_law_545 ?_
    refine jj_ti (x' := nI (1 + 4 * n + 1)) (nI_add (1 + 4 * n) 1) ?_
    refine jj_sald hG dd_La_law_546 (vp_in_nI (by omega) (by omega)) (1 + 4 * n + 1) (nI_clamp (by omega)) ?_
    refine jj_callV (ci := 7) [_] [_] (4 * k) (22 * k) dd_La_law_547 cs_La_89 ci_La_89 (hS.1.1 60 _ rfl) ⟨by decide, rfl⟩ rfl (Nat.le_of_ble_eq_true rfl) ⟨(Nat.le_of_ble_eq_true rfl), (Nat.le_of_ble_eq_true rfl)⟩ ⟨by omega, by omega⟩ rfl (cs_use (cs_Mo_crash0 rfl (vo_ (n := 2) (by decide) h0) (fun M3 hS3 => ?_)) hS)
    refine jj_icmp_eq (tgt := 868) dd_La_law_550 (by decide) (fun _ => ?_) (fun h => absurd rfl h)
    exact nxt _ _ hS3 (inv_0 hI)
set_option maxRecDepth 20000 in
theorem lc_recover {l : Launch} (hfl : l.flags = pinnedFlags ++ [noTraceFlag]) {G : mm_G} {A : Nat → Prop} {b L n k : Nat} {xs : Nat → Int32} {g : Nat → Nat} {S : ss_} {M : mm_M} (hG : sk_ G b L xs) (hn : n < 512) (hL : 4 + 4 * n < L) (hL2 : L ≤ 2049) (hS : rp_ g M S) (hI : inv_ n S) (nxt : ∀ S1 M1, rp_ g M1 S1 → inv_ (n + 1) S1 → jj_ l yy_La_law code 7 (some .boolean) G room_1 A (mm_ret (fun v _ => v = some (.int 1))) (4 * k) (22 * k) 868 [(4, .int (nI (1 + 4 * n))), (3, .ref (g 100)), (2, .ref (g 60)), (1, .ref (g 0)), (0, .ref b)] [] M1) : jj_ l yy_La_law code 7 (some .boolean) G room_1 A (mm_ret (fun v _ => v = some (.int 1))) (4 * (k + 1)) (22 * (k + 1)) 555 [(4, .int (nI (1 + 4 * n))), (3, .ref (g 100)), (2, .ref (g 60)), (1, .ref (g 0)), (0, .ref b)] [] M := by
  by_cases h0 : vp_in (xs (1 + 4 * n + 1)) 3
  · obtain ⟨t, ht2, et⟩ := xs_c (by decide) h0
    refine jj_aload_n 3 dd_La_law_555 rfl ?_
    refine jj_aload_n 4 dd_La_law_556 rfl ?_
    refine jj_iload 0 dd_La_law_557 rfl ?_
    refine jj_iconst (v := 1) dd_La_law_559 rfl ?_
    refine jj_iadd dd_La_law_560 ?_
    refine jj_ti (x' := nI (1 + 4 * n + 1)) (nI_add (1 + 4 * n) 1) ?_
    refine jj_sald hG dd_La_law_561 (vp_in_nI (by omega) (by omega)) (1 + 4 * n + 1) (nI_clamp (by omega)) ?_
    refine jj_ti (x' := nI t) et ?_
    refine jj_callV (ci := 0) [_] [] (4 * k) (22 * k) dd_La_law_562 cs_La_90 ci_La_90 (hS.1.1 0 _ rfl) ⟨by decide, rfl⟩ rfl (Nat.le_of_ble_eq_true rfl) ⟨(Nat.le_of_ble_eq_true rfl), (Nat.le_of_ble_eq_true rfl)⟩ ⟨by omega, by omega⟩ rfl (ct_TC_recover hS ht2 ?_)
    refine dt2_mono dt_re (top_ dt_re (op_re ht2) (by omega) hI) (fun r S1 hx M1 hS1 => ?_)
    obtain ⟨_, ht⟩ := hx
    obtain ⟨r', F1, ev, hm, hrow, hI1, T, hsim⟩ := ht S1.1 (fun _ _ _ => rfl)
    have hrr : r = r' := by
      rcases hm with ⟨_, _, a⟩ | ⟨a, _⟩
      · exact a
      · exact absurd rfl a
    refine jj_aload_n 2 dd_La_law_565 rfl ?_
    refine jj_aload_n 4 dd_La_law_566 rfl ?_
    refine jj_iload 0 dd_La_law_567 rfl ?_
    refine jj_iconst (v := 1) dd_La_law_569 rfl ?_
    refine jj_iadd dd_La_law_570 ?_
    refine jj_ti (x' := nI (1 + 4 * n + 1)) (nI_add (1 + 4 * n) 1) ?_
    refine jj_sald hG dd_La_law_571 (vp_in_nI (by omega) (by omega)) (1 + 4 * n + 1) (nI_clamp (by omega)) ?_
    refine jj_ti (x' := nI t) et ?_
    refine jj_callV (ci := 7) [_] [_] (4 * k) (22 * k) dd_La_law_572 cs_La_93 ci_La_93 (hS1.1.1 60 _ rfl) ⟨by decide, rfl⟩ rfl (Nat.le_of_ble_eq_true rfl) ⟨(Nat.le_of_ble_eq_true rfl), (Nat.le_of_ble_eq_true rfl)⟩ ⟨by omega, by omega⟩ rfl (cs_use (cs_Mo_recover rfl ht2 ?_) hS1)
    have ev2 : ∀ K', K' r' F1 → re_ (uf_ S1.1 60 1 0) t K' := ev
    show re_ (uf_ S1.1 60 1 0) t _
    generalize re_ (uf_ S1.1 60 1 0) t = WW at ev2 ⊢
    refine ev2 _ (fun M3 hS3 => ?_)
    refine jj_icmp_eq (tgt := 868) dd_La_law_575 (by decide) (fun _ => ?_) (fun h => absurd hrr h)
    exact nxt _ _ hS3 hI1
  · skip
    refine jj_aload_n 3 dd_La_law_555 rfl ?_
    refine jj_aload_n 4 dd_La_law_556 rfl ?_
    refine jj_iload 0 dd_La_law_557 rfl ?_
    refine jj_iconst (v := 1) dd_La_law_559 rfl ?_
    refine jj_iadd dd_La_law_560 ?_
    refine jj_ti (x' := nI (1 + 4 * n + 1)) (nI_add (1 + 4 * n) 1) ?_
    refine jj_sald hG dd_La_law_561 (vp_in_nI (by omega) (by omega)) (1 + 4 * n + 1) (nI_clamp (by omega)) ?_
    refine jj_callV (ci := 0) [_] [] (4 * k) (22 * k) dd_La_law_562 cs_La_90 ci_La_90 (hS.1.1 0 _ rfl) ⟨by decide, rfl⟩ rfl (Nat.le_of_ble_eq_true rfl) ⟨(Nat.le_of_ble_eq_true rfl), (Nat.le_of_ble_eq_true rfl)⟩ ⟨by omega, by omega⟩ rfl (ct_TC_recover0 (y := 0) (z := 0) hS h0 ?_)
    show jj_ _ _ _ _ _ _ _ _ _ _ _ 565 _ [.int 0] M
    refine jj_aload_n 2 dd_La_law_565 rfl ?_
    refine jj_aload_n 4 dd_La_law_566 rfl ?_
    refine jj_iload 0 dd_La_law_567 rfl ?_
    refine jj_iconst (v := 1) dd_La_law_569 rfl ?_
    refine jj_iadd dd_La_law_570 ?_
    refine jj_ti (x' := nI (1 + 4 * n + 1)) (nI_add (1 + 4 * n) 1) ?_
    refine jj_sald hG dd_La_law_571 (vp_in_nI (by omega) (by omega)) (1 + 4 * n + 1) (nI_clamp (by omega)) ?_
    refine jj_callV (ci := 7) [_] [_] (4 * k) (22 * k) dd_La_law_572 cs_La_93 ci_La_93 (hS.1.1 60 _ rfl) ⟨by decide, rfl⟩ rfl (Nat.le_of_ble_eq_true rfl) ⟨(Nat.le_of_ble_eq_true rfl), (Nat.le_of_ble_eq_true rfl)⟩ ⟨by omega, by omega⟩ rfl (cs_use (cs_Mo_recover0 rfl (vo_ (n := 2) (by decide) h0) (fun M3 hS3 => ?_)) hS)
    refine jj_icmp_eq (tgt := 868) dd_La_law_575 (by decide) (fun _ => ?_) (fun h => absurd rfl h)
    exact nxt _ _ hS3 (inv_0 hI)
set_option maxRecDepth 20000 in
theorem lc_tick {l : Launch} (hfl : l.flags = pinnedFlags ++ [noTraceFlag]) {G : mm_G} {A : Nat → Prop} {b L n k : Nat} {xs : Nat → Int32} {g : Nat → Nat} {S : ss_} {M : mm_M} (hG : sk_ G b L xs) (hn : n < 512) (hL : 4 + 4 * n < L) (hL2 : L ≤ 2049) (hS : rp_ g M S) (hI : inv_ n S) (nxt : ∀ S1 M1, rp_ g M1 S1 → inv_ (n + 1) S1 → jj_ l yy_La_law code 7 (some .boolean) G room_1 A (mm_ret (fun v _ => v = some (.int 1))) (4 * k) (22 * k) 868 [(4, .int (nI (1 + 4 * n))), (3, .ref (g 100)), (2, .ref (g 60)), (1, .ref (g 0)), (0, .ref b)] [] M1) : jj_ l yy_La_law code 7 (some .boolean) G room_1 A (mm_ret (fun v _ => v = some (.int 1))) (4 * (k + 1)) (22 * (k + 1)) 505 [(4, .int (nI (1 + 4 * n))), (3, .ref (g 100)), (2, .ref (g 60)), (1, .ref (g 0)), (0, .ref b)] [] M := by
  refine jj_aload_n 3 dd_La_law_505 rfl ?_
  refine jj_aload_n 4 dd_La_law_506 rfl ?_
  refine jj_iload 0 dd_La_law_507 rfl ?_
  refine jj_iconst (v := 1) dd_La_law_509 rfl ?_
  refine jj_iadd dd_La_law_510 ?_
  refine jj_ti (x' := nI (1 + 4 * n + 1)) (nI_add (1 + 4 * n) 1) ?_
  refine jj_sald hG dd_La_law_511 (vp_in_nI (by omega) (by omega)) (1 + 4 * n + 1) (nI_clamp (by omega)) ?_
  refine jj_callV (ci := 0) [_] [] (4 * k) (22 * k) dd_La_law_512 cs_La_82 ci_La_82 (hS.1.1 0 _ rfl) ⟨by decide, rfl⟩ rfl (Nat.le_of_ble_eq_true rfl) ⟨(Nat.le_of_ble_eq_true rfl), (Nat.le_of_ble_eq_true rfl)⟩ ⟨by omega, by omega⟩ rfl (ct_TC_tick hS ?_)
  refine dt2_mono dt_tk (top_ dt_tk (op_tk) (by omega) hI) (fun r S1 hx M1 hS1 => ?_)
  obtain ⟨_, ht⟩ := hx
  obtain ⟨r', F1, ev, hm, hrow, hI1, T, hsim⟩ := ht S1.1 (fun _ _ _ => rfl)
  have hrr : r = r' := by
    rcases hm with ⟨_, _, a⟩ | ⟨a, _⟩
    · exact a
    · exact absurd rfl a
  refine jj_aload_n 2 dd_La_law_515 rfl ?_
  refine jj_aload_n 4 dd_La_law_516 rfl ?_
  refine jj_iload 0 dd_La_law_517 rfl ?_
  refine jj_iconst (v := 1) dd_La_law_519 rfl ?_
  refine jj_iadd dd_La_law_520 ?_
  refine jj_ti (x' := nI (1 + 4 * n + 1)) (nI_add (1 + 4 * n) 1) ?_
  refine jj_sald hG dd_La_law_521 (vp_in_nI (by omega) (by omega)) (1 + 4 * n + 1) (nI_clamp (by omega)) ?_
  by_cases hx : xs (1 + 4 * n + 1) < 0 ∨ 50 < xs (1 + 4 * n + 1)
  · skip
    refine jj_callV (ci := 7) [_] [_] (4 * k) (22 * k) dd_La_law_522 cs_La_85 ci_La_85 (hS1.1.1 60 _ rfl) ⟨by decide, rfl⟩ rfl (Nat.le_of_ble_eq_true rfl) ⟨(Nat.le_of_ble_eq_true rfl), (Nat.le_of_ble_eq_true rfl)⟩ ⟨by omega, by omega⟩ rfl (cs_use (cs_Mo_tick0 rfl hx ?_) hS1)
    have h9 := ev (fun r2 F => ∀ M', rp_ g M' (F, S1.2) → jj_ l yy_La_law code 7 (some .boolean) G room_1 A (mm_ret (fun v _ => v = some (.int 1))) (4 * k) (22 * k) 525 [(4, .int (nI (1 + 4 * n))), (3, .ref (g 100)), (2, .ref (g 60)), (1, .ref (g 0)), (0, .ref b)] [.int r2, .int r] M') (fun M3 hS3 => ?_)
    · unfold tkY_ at h9
      rw [if_pos hx] at h9
      exact h9
    · skip
      refine jj_icmp_eq (tgt := 868) dd_La_law_525 (by decide) (fun _ => ?_) (fun h => absurd hrr h)
      exact nxt _ _ hS3 hI1
  · skip
    refine jj_callV (ci := 7) [_] [_] (4 * k) (22 * k) dd_La_law_522 cs_La_85 ci_La_85 (hS1.1.1 60 _ rfl) ⟨by decide, rfl⟩ rfl (Nat.le_of_ble_eq_true rfl) ⟨(Nat.le_of_ble_eq_true rfl), (Nat.le_of_ble_eq_true rfl)⟩ ⟨by omega, by omega⟩ rfl (cs_use (cs_Mo_tick rfl (fun h => hx (Or.inl h)) (fun h => hx (Or.inr h)) ?_) hS1)
    have h9 := ev (fun r2 F => ∀ M', rp_ g M' (F, S1.2) → jj_ l yy_La_law code 7 (some .boolean) G room_1 A (mm_ret (fun v _ => v = some (.int 1))) (4 * k) (22 * k) 525 [(4, .int (nI (1 + 4 * n))), (3, .ref (g 100)), (2, .ref (g 60)), (1, .ref (g 0)), (0, .ref b)] [.int r2, .int r] M') (fun M3 hS3 => ?_)
    · unfold tkY_ at h9
      rw [if_neg hx] at h9
      exact h9
    · skip
      refine jj_icmp_eq (tgt := 868) dd_La_law_525 (by decide) (fun _ => ?_) (fun h => absurd hrr h)
      exact nxt _ _ hS3 hI1
set_option maxRecDepth 20000 in
theorem lc_fail0 {l : Launch} (hfl : l.flags = pinnedFlags ++ [noTraceFlag]) {G : mm_G} {A : Nat → Prop} {b L n k : Nat} {xs : Nat → Int32} {g : Nat → Nat} {S : ss_} {M : mm_M} (hG : sk_ G b L xs) (hn : n < 512) (hL : 4 + 4 * n < L) (hL2 : L ≤ 2049) (hS : rp_ g M S) (hI : inv_ n S) (h3 : xs (1 + 4 * n + 3) = 0) (nxt : ∀ S1 M1, rp_ g M1 S1 → inv_ (n + 1) S1 → jj_ l yy_La_law code 7 (some .boolean) G room_1 A (mm_ret (fun v _ => v = some (.int 1))) (4 * k) (22 * k) 868 [(4, .int (nI (1 + 4 * n))), (3, .ref (g 100)), (2, .ref (g 60)), (1, .ref (g 0)), (0, .ref b)] [] M1) : jj_ l yy_La_law code 7 (some .boolean) G room_1 A (mm_ret (fun v _ => v = some (.int 1))) (4 * (k + 1)) (22 * (k + 1)) 580 [(4, .int (nI (1 + 4 * n))), (3, .ref (g 100)), (2, .ref (g 60)), (1, .ref (g 0)), (0, .ref b)] [] M := by
  by_cases h0 : vp_in (xs (1 + 4 * n + 1)) 3
  · obtain ⟨t, ht2, et⟩ := xs_c (by decide) h0
    refine jj_aload_n 3 dd_La_law_580 rfl ?_
    refine jj_aload_n 4 dd_La_law_581 rfl ?_
    refine jj_iload 0 dd_La_law_582 rfl ?_
    refine jj_iconst (v := 1) dd_La_law_584 rfl ?_
    refine jj_iadd dd_La_law_585 ?_
    refine jj_ti (x' := nI (1 + 4 * n + 1)) (nI_add (1 + 4 * n) 1) ?_
    refine jj_sald hG dd_La_law_586 (vp_in_nI (by omega) (by omega)) (1 + 4 * n + 1) (nI_clamp (by omega)) ?_
    refine jj_ti (x' := nI t) et ?_
    refine jj_aload_n 4 dd_La_law_587 rfl ?_
    refine jj_iload 0 dd_La_law_588 rfl ?_
    refine jj_iconst (v := 2) dd_La_law_590 rfl ?_
    refine jj_iadd dd_La_law_591 ?_
    refine jj_ti (x' := nI (1 + 4 * n + 2)) (nI_add (1 + 4 * n) 2) ?_
    refine jj_sald hG dd_La_law_592 (vp_in_nI (by omega) (by omega)) (1 + 4 * n + 2) (nI_clamp (by omega)) ?_
    refine jj_aload_n 4 dd_La_law_593 rfl ?_
    refine jj_iload 0 dd_La_law_594 rfl ?_
    refine jj_iconst (v := 3) dd_La_law_596 rfl ?_
    refine jj_iadd dd_La_law_597 ?_
    refine jj_ti (x' := nI (1 + 4 * n + 3)) (nI_add (1 + 4 * n) 3) ?_
    refine jj_sald hG dd_La_law_598 (vp_in_nI (by omega) (by omega)) (1 + 4 * n + 3) (nI_clamp (by omega)) ?_
    refine jj_if_eq (tgt := 606) dd_La_law_599 (by decide) (fun _ => ?_) (fun h => absurd h3 h)
    refine jj_iconst (v := 0) dd_La_law_606 rfl ?_
    refine jj_callV (ci := 0) [_, _, _] [] (4 * k) (22 * k) dd_La_law_607 cs_La_94 ci_La_94 (hS.1.1 0 _ rfl) ⟨by decide, rfl⟩ rfl (Nat.le_of_ble_eq_true rfl) ⟨(Nat.le_of_ble_eq_true rfl), (Nat.le_of_ble_eq_true rfl)⟩ ⟨by omega, by omega⟩ rfl (ct_TC_fail hS ht2 (Or.inl rfl) ?_)
    refine dt2_mono dt_fa (top_ dt_fa (op_fa (x := xs (1 + 4 * n + 2)) (z := 0) ht2) (by omega) hI) (fun r S1 hx M1 hS1 => ?_)
    obtain ⟨_, ht⟩ := hx
    obtain ⟨r', F1, ev, hm, hrow, hI1, T, hsim⟩ := ht S1.1 (fun _ _ _ => rfl)
    have hrr : r = r' := by
      rcases hm with ⟨_, _, a⟩ | ⟨a, _⟩
      · exact a
      · exact absurd rfl a
    refine jj_aload_n 2 dd_La_law_610 rfl ?_
    refine jj_aload_n 4 dd_La_law_611 rfl ?_
    refine jj_iload 0 dd_La_law_612 rfl ?_
    refine jj_iconst (v := 1) dd_La_law_614 rfl ?_
    refine jj_iadd dd_La_law_615 ?_
    refine jj_ti (x' := nI (1 + 4 * n + 1)) (nI_add (1 + 4 * n) 1) ?_
    refine jj_sald hG dd_La_law_616 (vp_in_nI (by omega) (by omega)) (1 + 4 * n + 1) (nI_clamp (by omega)) ?_
    refine jj_ti (x' := nI t) et ?_
    refine jj_aload_n 4 dd_La_law_617 rfl ?_
    refine jj_iload 0 dd_La_law_618 rfl ?_
    refine jj_iconst (v := 2) dd_La_law_620 rfl ?_
    refine jj_iadd dd_La_law_621 ?_
    refine jj_ti (x' := nI (1 + 4 * n + 2)) (nI_add (1 + 4 * n) 2) ?_
    refine jj_sald hG dd_La_law_622 (vp_in_nI (by omega) (by omega)) (1 + 4 * n + 2) (nI_clamp (by omega)) ?_
    refine jj_aload_n 4 dd_La_law_623 rfl ?_
    refine jj_iload 0 dd_La_law_624 rfl ?_
    refine jj_iconst (v := 3) dd_La_law_626 rfl ?_
    refine jj_iadd dd_La_law_627 ?_
    refine jj_ti (x' := nI (1 + 4 * n + 3)) (nI_add (1 + 4 * n) 3) ?_
    refine jj_sald hG dd_La_law_628 (vp_in_nI (by omega) (by omega)) (1 + 4 * n + 3) (nI_clamp (by omega)) ?_
    refine jj_if_eq (tgt := 636) dd_La_law_629 (by decide) (fun _ => ?_) (fun h => absurd h3 h)
    refine jj_iconst (v := 0) dd_La_law_636 rfl ?_
    by_cases hx : xs (1 + 4 * n + 2) < 0 ∨ 20 < xs (1 + 4 * n + 2)
    · skip
      refine jj_callV (ci := 7) [_, _, _] [_] (4 * k) (22 * k) dd_La_law_637 cs_La_98 ci_La_98 (hS1.1.1 60 _ rfl) ⟨by decide, rfl⟩ rfl (Nat.le_of_ble_eq_true rfl) ⟨(Nat.le_of_ble_eq_true rfl), (Nat.le_of_ble_eq_true rfl)⟩ ⟨by omega, by omega⟩ rfl (cs_use (cs_Mo_fail0 rfl (Or.inr hx) ?_) hS1)
      have h9 := ev (fun r2 F => ∀ M', rp_ g M' (F, S1.2) → jj_ l yy_La_law code 7 (some .boolean) G room_1 A (mm_ret (fun v _ => v = some (.int 1))) (4 * k) (22 * k) 640 [(4, .int (nI (1 + 4 * n))), (3, .ref (g 100)), (2, .ref (g 60)), (1, .ref (g 0)), (0, .ref b)] [.int r2, .int r] M') (fun M3 hS3 => ?_)
      · unfold faY_ at h9
        rw [if_pos hx] at h9
        exact h9
      · skip
        refine jj_icmp_eq (tgt := 868) dd_La_law_640 (by decide) (fun _ => ?_) (fun h => absurd hrr h)
        exact nxt _ _ hS3 hI1
    · skip
      refine jj_callV (ci := 7) [_, _, _] [_] (4 * k) (22 * k) dd_La_law_637 cs_La_98 ci_La_98 (hS1.1.1 60 _ rfl) ⟨by decide, rfl⟩ rfl (Nat.le_of_ble_eq_true rfl) ⟨(Nat.le_of_ble_eq_true rfl), (Nat.le_of_ble_eq_true rfl)⟩ ⟨by omega, by omega⟩ rfl (cs_use (cs_Mo_fail rfl ht2 (fun h => hx (Or.inl h)) (fun h => hx (Or.inr h)) (Or.inl rfl) ?_) hS1)
      have h9 := ev (fun r2 F => ∀ M', rp_ g M' (F, S1.2) → jj_ l yy_La_law code 7 (some .boolean) G room_1 A (mm_ret (fun v _ => v = some (.int 1))) (4 * k) (22 * k) 640 [(4, .int (nI (1 + 4 * n))), (3, .ref (g 100)), (2, .ref (g 60)), (1, .ref (g 0)), (0, .ref b)] [.int r2, .int r] M') (fun M3 hS3 => ?_)
      · unfold faY_ at h9
        rw [if_neg hx] at h9
        exact h9
      · skip
        refine jj_icmp_eq (tgt := 868) dd_La_law_640 (by decide) (fun _ => ?_) (fun h => absurd hrr h)
        exact nxt _ _ hS3 hI1
  · skip
    refine jj_aload_n 3 dd_La_law_580 rfl ?_
    refine jj_aload_n 4 dd_La_law_581 rfl ?_
    refine jj_iload 0 dd_La_law_582 rfl ?_
    refine jj_iconst (v := 1) dd_La_law_584 rfl ?_
    refine jj_iadd dd_La_law_585 ?_
    refine jj_ti (x' := nI (1 + 4 * n + 1)) (nI_add (1 + 4 * n) 1) ?_
    refine jj_sald hG dd_La_law_586 (vp_in_nI (by omega) (by omega)) (1 + 4 * n + 1) (nI_clamp (by omega)) ?_
    refine jj_aload_n 4 dd_La_law_587 rfl ?_
    refine jj_iload 0 dd_La_law_588 rfl ?_
    refine jj_iconst (v := 2) dd_La_law_590 rfl ?_
    refine jj_iadd dd_La_law_591 ?_
    refine jj_ti (x' := nI (1 + 4 * n + 2)) (nI_add (1 + 4 * n) 2) ?_
    refine jj_sald hG dd_La_law_592 (vp_in_nI (by omega) (by omega)) (1 + 4 * n + 2) (nI_clamp (by omega)) ?_
    refine jj_aload_n 4 dd_La_law_593 rfl ?_
    refine jj_iload 0 dd_La_law_594 rfl ?_
    refine jj_iconst (v := 3) dd_La_law_596 rfl ?_
    refine jj_iadd dd_La_law_597 ?_
    refine jj_ti (x' := nI (1 + 4 * n + 3)) (nI_add (1 + 4 * n) 3) ?_
    refine jj_sald hG dd_La_law_598 (vp_in_nI (by omega) (by omega)) (1 + 4 * n + 3) (nI_clamp (by omega)) ?_
    refine jj_if_eq (tgt := 606) dd_La_law_599 (by decide) (fun _ => ?_) (fun h => absurd h3 h)
    refine jj_iconst (v := 0) dd_La_law_606 rfl ?_
    refine jj_callV (ci := 0) [_, _, _] [] (4 * k) (22 * k) dd_La_law_607 cs_La_94 ci_La_94 (hS.1.1 0 _ rfl) ⟨by decide, rfl⟩ rfl (Nat.le_of_ble_eq_true rfl) ⟨(Nat.le_of_ble_eq_true rfl), (Nat.le_of_ble_eq_true rfl)⟩ ⟨by omega, by omega⟩ rfl (ct_TC_fail0 hS h0 ?_)
    show jj_ _ _ _ _ _ _ _ _ _ _ _ 610 _ [.int 0] M
    refine jj_aload_n 2 dd_La_law_610 rfl ?_
    refine jj_aload_n 4 dd_La_law_611 rfl ?_
    refine jj_iload 0 dd_La_law_612 rfl ?_
    refine jj_iconst (v := 1) dd_La_law_614 rfl ?_
    refine jj_iadd dd_La_law_615 ?_
    refine jj_ti (x' := nI (1 + 4 * n + 1)) (nI_add (1 + 4 * n) 1) ?_
    refine jj_sald hG dd_La_law_616 (vp_in_nI (by omega) (by omega)) (1 + 4 * n + 1) (nI_clamp (by omega)) ?_
    refine jj_aload_n 4 dd_La_law_617 rfl ?_
    refine jj_iload 0 dd_La_law_618 rfl ?_
    refine jj_iconst (v := 2) dd_La_law_620 rfl ?_
    refine jj_iadd dd_La_law_621 ?_
    refine jj_ti (x' := nI (1 + 4 * n + 2)) (nI_add (1 + 4 * n) 2) ?_
    refine jj_sald hG dd_La_law_622 (vp_in_nI (by omega) (by omega)) (1 + 4 * n + 2) (nI_clamp (by omega)) ?_
    refine jj_aload_n 4 dd_La_law_623 rfl ?_
    refine jj_iload 0 dd_La_law_624 rfl ?_
    refine jj_iconst (v := 3) dd_La_law_626 rfl ?_
    refine jj_iadd dd_La_law_627 ?_
    refine jj_ti (x' := nI (1 + 4 * n + 3)) (nI_add (1 + 4 * n) 3) ?_
    refine jj_sald hG dd_La_law_628 (vp_in_nI (by omega) (by omega)) (1 + 4 * n + 3) (nI_clamp (by omega)) ?_
    refine jj_if_eq (tgt := 636) dd_La_law_629 (by decide) (fun _ => ?_) (fun h => absurd h3 h)
    refine jj_iconst (v := 0) dd_La_law_636 rfl ?_
    refine jj_callV (ci := 7) [_, _, _] [_] (4 * k) (22 * k) dd_La_law_637 cs_La_98 ci_La_98 (hS.1.1 60 _ rfl) ⟨by decide, rfl⟩ rfl (Nat.le_of_ble_eq_true rfl) ⟨(Nat.le_of_ble_eq_true rfl), (Nat.le_of_ble_eq_true rfl)⟩ ⟨by omega, by omega⟩ rfl (cs_use (cs_Mo_fail0 rfl (Or.inl (vo_ (n := 2) (by decide) h0)) (fun M3 hS3 => ?_)) hS)
    refine jj_icmp_eq (tgt := 868) dd_La_law_640 (by decide) (fun _ => ?_) (fun h => absurd rfl h)
    exact nxt _ _ hS3 (inv_0 hI)
set_option maxRecDepth 20000 in
theorem lc_fail1 {l : Launch} (hfl : l.flags = pinnedFlags ++ [noTraceFlag]) {G : mm_G} {A : Nat → Prop} {b L n k : Nat} {xs : Nat → Int32} {g : Nat → Nat} {S : ss_} {M : mm_M} (hG : sk_ G b L xs) (hn : n < 512) (hL : 4 + 4 * n < L) (hL2 : L ≤ 2049) (hS : rp_ g M S) (hI : inv_ n S) (h3 : ¬ xs (1 + 4 * n + 3) = 0) (nxt : ∀ S1 M1, rp_ g M1 S1 → inv_ (n + 1) S1 → jj_ l yy_La_law code 7 (some .boolean) G room_1 A (mm_ret (fun v _ => v = some (.int 1))) (4 * k) (22 * k) 868 [(4, .int (nI (1 + 4 * n))), (3, .ref (g 100)), (2, .ref (g 60)), (1, .ref (g 0)), (0, .ref b)] [] M1) : jj_ l yy_La_law code 7 (some .boolean) G room_1 A (mm_ret (fun v _ => v = some (.int 1))) (4 * (k + 1)) (22 * (k + 1)) 580 [(4, .int (nI (1 + 4 * n))), (3, .ref (g 100)), (2, .ref (g 60)), (1, .ref (g 0)), (0, .ref b)] [] M := by
  by_cases h0 : vp_in (xs (1 + 4 * n + 1)) 3
  · obtain ⟨t, ht2, et⟩ := xs_c (by decide) h0
    refine jj_aload_n 3 dd_La_law_580 rfl ?_
    refine jj_aload_n 4 dd_La_law_581 rfl ?_
    refine jj_iload 0 dd_La_law_582 rfl ?_
    refine jj_iconst (v := 1) dd_La_law_584 rfl ?_
    refine jj_iadd dd_La_law_585 ?_
    refine jj_ti (x' := nI (1 + 4 * n + 1)) (nI_add (1 + 4 * n) 1) ?_
    refine jj_sald hG dd_La_law_586 (vp_in_nI (by omega) (by omega)) (1 + 4 * n + 1) (nI_clamp (by omega)) ?_
    refine jj_ti (x' := nI t) et ?_
    refine jj_aload_n 4 dd_La_law_587 rfl ?_
    refine jj_iload 0 dd_La_law_588 rfl ?_
    refine jj_iconst (v := 2) dd_La_law_590 rfl ?_
    refine jj_iadd dd_La_law_591 ?_
    refine jj_ti (x' := nI (1 + 4 * n + 2)) (nI_add (1 + 4 * n) 2) ?_
    refine jj_sald hG dd_La_law_592 (vp_in_nI (by omega) (by omega)) (1 + 4 * n + 2) (nI_clamp (by omega)) ?_
    refine jj_aload_n 4 dd_La_law_593 rfl ?_
    refine jj_iload 0 dd_La_law_594 rfl ?_
    refine jj_iconst (v := 3) dd_La_law_596 rfl ?_
    refine jj_iadd dd_La_law_597 ?_
    refine jj_ti (x' := nI (1 + 4 * n + 3)) (nI_add (1 + 4 * n) 3) ?_
    refine jj_sald hG dd_La_law_598 (vp_in_nI (by omega) (by omega)) (1 + 4 * n + 3) (nI_clamp (by omega)) ?_
    refine jj_if_eq (tgt := 606) dd_La_law_599 (by decide) (fun h => absurd h h3) (fun _ => ?_)
    refine jj_iconst (v := 1) dd_La_law_602 rfl ?_
    refine jj_goto (tgt := 607) dd_La_law_603 (by decide) ?_
    refine jj_callV (ci := 0) [_, _, _] [] (4 * k) (22 * k) dd_La_law_607 cs_La_94 ci_La_94 (hS.1.1 0 _ rfl) ⟨by decide, rfl⟩ rfl (Nat.le_of_ble_eq_true rfl) ⟨(Nat.le_of_ble_eq_true rfl), (Nat.le_of_ble_eq_true rfl)⟩ ⟨by omega, by omega⟩ rfl (ct_TC_fail hS ht2 (Or.inr rfl) ?_)
    refine dt2_mono dt_fa (top_ dt_fa (op_fa (x := xs (1 + 4 * n + 2)) (z := 1) ht2) (by omega) hI) (fun r S1 hx M1 hS1 => ?_)
    obtain ⟨_, ht⟩ := hx
    obtain ⟨r', F1, ev, hm, hrow, hI1, T, hsim⟩ := ht S1.1 (fun _ _ _ => rfl)
    have hrr : r = r' := by
      rcases hm with ⟨_, _, a⟩ | ⟨a, _⟩
      · exact a
      · exact absurd rfl a
    refine jj_aload_n 2 dd_La_law_610 rfl ?_
    refine jj_aload_n 4 dd_La_law_611 rfl ?_
    refine jj_iload 0 dd_La_law_612 rfl ?_
    refine jj_iconst (v := 1) dd_La_law_614 rfl ?_
    refine jj_iadd dd_La_law_615 ?_
    refine jj_ti (x' := nI (1 + 4 * n + 1)) (nI_add (1 + 4 * n) 1) ?_
    refine jj_sald hG dd_La_law_616 (vp_in_nI (by omega) (by omega)) (1 + 4 * n + 1) (nI_clamp (by omega)) ?_
    refine jj_ti (x' := nI t) et ?_
    refine jj_aload_n 4 dd_La_law_617 rfl ?_
    refine jj_iload 0 dd_La_law_618 rfl ?_
    refine jj_iconst (v := 2) dd_La_law_620 rfl ?_
    refine jj_iadd dd_La_law_621 ?_
    refine jj_ti (x' := nI (1 + 4 * n + 2)) (nI_add (1 + 4 * n) 2) ?_
    refine jj_sald hG dd_La_law_622 (vp_in_nI (by omega) (by omega)) (1 + 4 * n + 2) (nI_clamp (by omega)) ?_
    refine jj_aload_n 4 dd_La_law_623 rfl ?_
    refine jj_iload 0 dd_La_law_624 rfl ?_
    refine jj_iconst (v := 3) dd_La_law_626 rfl ?_
    refine jj_iadd dd_La_law_627 ?_
    refine jj_ti (x' := nI (1 + 4 * n + 3)) (nI_add (1 + 4 * n) 3) ?_
    refine jj_sald hG dd_La_law_628 (vp_in_nI (by omega) (by omega)) (1 + 4 * n + 3) (nI_clamp (by omega)) ?_
    refine jj_if_eq (tgt := 636) dd_La_law_629 (by decide) (fun h => absurd h h3) (fun _ => ?_)
    refine jj_iconst (v := 1) dd_La_law_632 rfl ?_
    refine jj_goto (tgt := 637) dd_La_law_633 (by decide) ?_
    by_cases hx : xs (1 + 4 * n + 2) < 0 ∨ 20 < xs (1 + 4 * n + 2)
    · skip
      refine jj_callV (ci := 7) [_, _, _] [_] (4 * k) (22 * k) dd_La_law_637 cs_La_98 ci_La_98 (hS1.1.1 60 _ rfl) ⟨by decide, rfl⟩ rfl (Nat.le_of_ble_eq_true rfl) ⟨(Nat.le_of_ble_eq_true rfl), (Nat.le_of_ble_eq_true rfl)⟩ ⟨by omega, by omega⟩ rfl (cs_use (cs_Mo_fail0 rfl (Or.inr hx) ?_) hS1)
      have h9 := ev (fun r2 F => ∀ M', rp_ g M' (F, S1.2) → jj_ l yy_La_law code 7 (some .boolean) G room_1 A (mm_ret (fun v _ => v = some (.int 1))) (4 * k) (22 * k) 640 [(4, .int (nI (1 + 4 * n))), (3, .ref (g 100)), (2, .ref (g 60)), (1, .ref (g 0)), (0, .ref b)] [.int r2, .int r] M') (fun M3 hS3 => ?_)
      · unfold faY_ at h9
        rw [if_pos hx] at h9
        exact h9
      · skip
        refine jj_icmp_eq (tgt := 868) dd_La_law_640 (by decide) (fun _ => ?_) (fun h => absurd hrr h)
        exact nxt _ _ hS3 hI1
    · skip
      refine jj_callV (ci := 7) [_, _, _] [_] (4 * k) (22 * k) dd_La_law_637 cs_La_98 ci_La_98 (hS1.1.1 60 _ rfl) ⟨by decide, rfl⟩ rfl (Nat.le_of_ble_eq_true rfl) ⟨(Nat.le_of_ble_eq_true rfl), (Nat.le_of_ble_eq_true rfl)⟩ ⟨by omega, by omega⟩ rfl (cs_use (cs_Mo_fail rfl ht2 (fun h => hx (Or.inl h)) (fun h => hx (Or.inr h)) (Or.inr rfl) ?_) hS1)
      have h9 := ev (fun r2 F => ∀ M', rp_ g M' (F, S1.2) → jj_ l yy_La_law code 7 (some .boolean) G room_1 A (mm_ret (fun v _ => v = some (.int 1))) (4 * k) (22 * k) 640 [(4, .int (nI (1 + 4 * n))), (3, .ref (g 100)), (2, .ref (g 60)), (1, .ref (g 0)), (0, .ref b)] [.int r2, .int r] M') (fun M3 hS3 => ?_)
      · unfold faY_ at h9
        rw [if_neg hx] at h9
        exact h9
      · skip
        refine jj_icmp_eq (tgt := 868) dd_La_law_640 (by decide) (fun _ => ?_) (fun h => absurd hrr h)
        exact nxt _ _ hS3 hI1
  · skip
    refine jj_aload_n 3 dd_La_law_580 rfl ?_
    refine jj_aload_n 4 dd_La_law_581 rfl ?_
    refine jj_iload 0 dd_La_law_582 rfl ?_
    refine jj_iconst (v := 1) dd_La_law_584 rfl ?_
    refine jj_iadd dd_La_law_585 ?_
    refine jj_ti (x' := nI (1 + 4 * n + 1)) (nI_add (1 + 4 * n) 1) ?_
    refine jj_sald hG dd_La_law_586 (vp_in_nI (by omega) (by omega)) (1 + 4 * n + 1) (nI_clamp (by omega)) ?_
    refine jj_aload_n 4 dd_La_law_587 rfl ?_
    refine jj_iload 0 dd_La_law_588 rfl ?_
    refine jj_iconst (v := 2) dd_La_law_590 rfl ?_
    refine jj_iadd dd_La_law_591 ?_
    refine jj_ti (x' := nI (1 + 4 * n + 2)) (nI_add (1 + 4 * n) 2) ?_
    refine jj_sald hG dd_La_law_592 (vp_in_nI (by omega) (by omega)) (1 + 4 * n + 2) (nI_clamp (by omega)) ?_
    refine jj_aload_n 4 dd_La_law_593 rfl ?_
    refine jj_iload 0 dd_La_law_594 rfl ?_
    refine jj_iconst (v := 3) dd_La_law_596 rfl ?_
    refine jj_iadd dd_La_law_597 ?_
    refine jj_ti (x' := nI (1 + 4 * n + 3)) (nI_add (1 + 4 * n) 3) ?_
    refine jj_sald hG dd_La_law_598 (vp_in_nI (by omega) (by omega)) (1 + 4 * n + 3) (nI_clamp (by omega)) ?_
    refine jj_if_eq (tgt := 606) dd_La_law_599 (by decide) (fun h => absurd h h3) (fun _ => ?_)
    refine jj_iconst (v := 1) dd_La_law_602 rfl ?_
    refine jj_goto (tgt := 607) dd_La_law_603 (by decide) ?_
    refine jj_callV (ci := 0) [_, _, _] [] (4 * k) (22 * k) dd_La_law_607 cs_La_94 ci_La_94 (hS.1.1 0 _ rfl) ⟨by decide, rfl⟩ rfl (Nat.le_of_ble_eq_true rfl) ⟨(Nat.le_of_ble_eq_true rfl), (Nat.le_of_ble_eq_true rfl)⟩ ⟨by omega, by omega⟩ rfl (ct_TC_fail0 hS h0 ?_)
    show jj_ _ _ _ _ _ _ _ _ _ _ _ 610 _ [.int 0] M
    refine jj_aload_n 2 dd_La_law_610 rfl ?_
    refine jj_aload_n 4 dd_La_law_611 rfl ?_
    refine jj_iload 0 dd_La_law_612 rfl ?_
    refine jj_iconst (v := 1) dd_La_law_614 rfl ?_
    refine jj_iadd dd_La_law_615 ?_
    refine jj_ti (x' := nI (1 + 4 * n + 1)) (nI_add (1 + 4 * n) 1) ?_
    refine jj_sald hG dd_La_law_616 (vp_in_nI (by omega) (by omega)) (1 + 4 * n + 1) (nI_clamp (by omega)) ?_
    refine jj_aload_n 4 dd_La_law_617 rfl ?_
    refine jj_iload 0 dd_La_law_618 rfl ?_
    refine jj_iconst (v := 2) dd_La_law_620 rfl ?_
    refine jj_iadd dd_La_law_621 ?_
    refine jj_ti (x' := nI (1 + 4 * n + 2)) (nI_add (1 + 4 * n) 2) ?_
    refine jj_sald hG dd_La_law_622 (vp_in_nI (by omega) (by omega)) (1 + 4 * n + 2) (nI_clamp (by omega)) ?_
    refine jj_aload_n 4 dd_La_law_623 rfl ?_
    refine jj_iload 0 dd_La_law_624 rfl ?_
    refine jj_iconst (v := 3) dd_La_law_626 rfl ?_
    refine jj_iadd dd_La_law_627 ?_
    refine jj_ti (x' := nI (1 + 4 * n + 3)) (nI_add (1 + 4 * n) 3) ?_
    refine jj_sald hG dd_La_law_628 (vp_in_nI (by omega) (by omega)) (1 + 4 * n + 3) (nI_clamp (by omega)) ?_
    refine jj_if_eq (tgt := 636) dd_La_law_629 (by decide) (fun h => absurd h h3) (fun _ => ?_)
    refine jj_iconst (v := 1) dd_La_law_632 rfl ?_
    refine jj_goto (tgt := 637) dd_La_law_633 (by decide) ?_
    refine jj_callV (ci := 7) [_, _, _] [_] (4 * k) (22 * k) dd_La_law_637 cs_La_98 ci_La_98 (hS.1.1 60 _ rfl) ⟨by decide, rfl⟩ rfl (Nat.le_of_ble_eq_true rfl) ⟨(Nat.le_of_ble_eq_true rfl), (Nat.le_of_ble_eq_true rfl)⟩ ⟨by omega, by omega⟩ rfl (cs_use (cs_Mo_fail0 rfl (Or.inl (vo_ (n := 2) (by decide) h0)) (fun M3 hS3 => ?_)) hS)
    refine jj_icmp_eq (tgt := 868) dd_La_law_640 (by decide) (fun _ => ?_) (fun h => absurd rfl h)
    exact nxt _ _ hS3 (inv_0 hI)
set_option maxRecDepth 20000 in
theorem lc_failOracle {l : Launch} (hfl : l.flags = pinnedFlags ++ [noTraceFlag]) {G : mm_G} {A : Nat → Prop} {b L n k : Nat} {xs : Nat → Int32} {g : Nat → Nat} {S : ss_} {M : mm_M} (hG : sk_ G b L xs) (hn : n < 512) (hL : 4 + 4 * n < L) (hL2 : L ≤ 2049) (hS : rp_ g M S) (hI : inv_ n S) (nxt : ∀ S1 M1, rp_ g M1 S1 → inv_ (n + 1) S1 → jj_ l yy_La_law code 7 (some .boolean) G room_1 A (mm_ret (fun v _ => v = some (.int 1))) (4 * k) (22 * k) 868 [(4, .int (nI (1 + 4 * n))), (3, .ref (g 100)), (2, .ref (g 60)), (1, .ref (g 0)), (0, .ref b)] [] M1) : jj_ l yy_La_law code 7 (some .boolean) G room_1 A (mm_ret (fun v _ => v = some (.int 1))) (4 * (k + 1)) (22 * (k + 1)) 645 [(4, .int (nI (1 + 4 * n))), (3, .ref (g 100)), (2, .ref (g 60)), (1, .ref (g 0)), (0, .ref b)] [] M := by
  refine jj_aload_n 3 dd_La_law_645 rfl ?_
  refine jj_callV (ci := 0) [] [] (4 * k) (22 * k) dd_La_law_646 cs_La_99 ci_La_99 (hS.1.1 0 _ rfl) ⟨by decide, rfl⟩ rfl (Nat.le_of_ble_eq_true rfl) ⟨(Nat.le_of_ble_eq_true rfl), (Nat.le_of_ble_eq_true rfl)⟩ ⟨by omega, by omega⟩ rfl (ct_TC_failOracle hS (fun M1 hS1 => ?_))
  have hx := top_ (dt_pt _) (op_fo (S := S)) (by omega) hI
  obtain ⟨_, ht⟩ := hx
  obtain ⟨r', F1, ev, hm, hrow, hI1, T, hsim⟩ := ht (uf_ S.1 1 0 (S.1 1 1 + 1)) (fun _ _ _ => rfl)
  have hrr : S.1 1 1 + 1 = r' := by
    rcases hm with ⟨_, _, a⟩ | ⟨a, _⟩
    · exact a
    · exact absurd rfl a
  refine jj_aload_n 2 dd_La_law_649 rfl ?_
  refine jj_callV (ci := 7) [] [_] (4 * k) (22 * k) dd_La_law_650 cs_La_102 ci_La_102 (hS1.1.1 60 _ rfl) ⟨by decide, rfl⟩ rfl (Nat.le_of_ble_eq_true rfl) ⟨(Nat.le_of_ble_eq_true rfl), (Nat.le_of_ble_eq_true rfl)⟩ ⟨by omega, by omega⟩ rfl (cs_use (cs_Mo_failOracle rfl ?_) hS1)
  have h9 := ev (fun r2 F => ∀ M', rp_ g M' (F, S.2) → jj_ l yy_La_law code 7 (some .boolean) G room_1 A (mm_ret (fun v _ => v = some (.int 1))) (4 * k) (22 * k) 653 [(4, .int (nI (1 + 4 * n))), (3, .ref (g 100)), (2, .ref (g 60)), (1, .ref (g 0)), (0, .ref b)] [.int r2, .int (S.1 1 1 + 1)] M') (fun M3 hS3 => ?_)
  · exact h9
  · skip
    refine jj_icmp_eq (tgt := 868) dd_La_law_653 (by decide) (fun _ => ?_) (fun h => absurd hrr h)
    exact nxt _ _ hS3 hI1
