set_option linter.constructorNameAsVariable false in
theorem sw_seal (S : ss_) (x : Int32) : ∃ V : (Int32 → ss_ → Prop) → Prop, (∀ (l : Launch) (M : mm_M) (g : Nat → Nat) (Q : Option Value → mm_M → Prop), rp_ g M S → V (fun r S' => ∀ M', rp_ g M' S' → Q (some (.int r)) M') → ct_ l yy_TC_sweep bb_TC_sweep 4 (some .int) 3 0 0 [.ref (g 0), .int x] M Q) ∧ dt_ (fun K : er_ → Prop => V (fun r S1 => K (0, r, S1))) ∧
    ∃ Y : mw_, op_ cdn_ (fun K => V (fun r S1 => K (0, r, S1))) Y S ∧ ∀ (l : Launch) (g : Nat → Nat) (S1 : ss_) (Q : Option Value → ss_ → Prop), rec_ (uf_ S1.1 60 1 0) ≤ 1540 → uf_ S1.1 60 1 0 60 11 = nI (rec_ (uf_ S1.1 60 1 0)) → Y (uf_ S1.1 60 1 0) (fun r F => Q (some (.int r)) (F, S1.2)) → cs_ l yy_Mo_sweep bb_Mo_sweep 7 (some .int) 2 0 0 g [.ref (g 60), .int x] S1 Q := by
  refine ⟨swC_ S x, ?_, dt_sw, fun F K => sw_ F x (sw_m F x) K, op_sw, ?_⟩
  · intro l M g Q hS h
    refine ct_TC_sweep hS ?_
    assumption
  · intro l g S1 Q h1 h2 h
    refine cs_Mo_sweep rfl h1 h2 ?_
    assumption
set_option maxRecDepth 20000 in
theorem lc_sweep {l : Launch} (hfl : l.flags = pinnedFlags ++ [noTraceFlag]) {G : mm_G} {A : Nat → Prop} {b L n k : Nat} {xs : Nat → Int32} {g : Nat → Nat} {S : ss_} {M : mm_M} (hG : sk_ G b L xs) (hn : n < 512) (hL : 4 + 4 * n < L) (hL2 : L ≤ 2049) (hS : rp_ g M S) (hI : inv_ n S) (nxt : ∀ S1 M1, rp_ g M1 S1 → inv_ (n + 1) S1 → jj_ l yy_La_law code 7 (some .boolean) G room_1 A (mm_ret (fun v _ => v = some (.int 1))) (4 * k) (22 * k) 868 [(4, .int (nI (1 + 4 * n))), (3, .ref (g 100)), (2, .ref (g 60)), (1, .ref (g 0)), (0, .ref b)] [] M1) : jj_ l yy_La_law code 7 (some .boolean) G room_1 A (mm_ret (fun v _ => v = some (.int 1))) (4 * (k + 1)) (22 * (k + 1)) 658 [(4, .int (nI (1 + 4 * n))), (3, .ref (g 100)), (2, .ref (g 60)), (1, .ref (g 0)), (0, .ref b)] [] M := by
  obtain ⟨V, hct, hd, Y, ho, hcm⟩ := sw_seal S (xs (1 + 4 * n + 1))
  refine jj_aload_n 3 dd_La_law_658 rfl ?_
  refine jj_aload_n 4 dd_La_law_659 rfl ?_
  refine jj_iload 0 dd_La_law_660 rfl ?_
  refine jj_iconst (v := 1) dd_La_law_662 rfl ?_
  refine jj_iadd dd_La_law_663 ?_
  refine jj_ti (x' := nI (1 + 4 * n + 1)) (nI_add (1 + 4 * n) 1) ?_
  refine jj_sald hG dd_La_law_664 (vp_in_nI (by omega) (by omega)) (1 + 4 * n + 1) (nI_clamp (by omega)) ?_
  refine jj_callV (ci := 0) [_] [] (4 * k) (22 * k) dd_La_law_665 cs_La_103 ci_La_103 (hS.1.1 0 _ rfl) ⟨by decide, rfl⟩ rfl (Nat.le_of_ble_eq_true rfl) ⟨(Nat.le_of_ble_eq_true rfl), (Nat.le_of_ble_eq_true rfl)⟩ ⟨by omega, by omega⟩ rfl (hct l _ g _ hS ?_)
  refine dt2_mono hd (top_ hd ho (by omega) hI) (fun r S1 hx M1 hS1 => ?_)
  obtain ⟨_, ht⟩ := hx
  obtain ⟨r', F1, ev, hm, hrow, hI1, T, hsim⟩ := ht S1.1 (fun _ _ _ => rfl)
  have hrr : r = r' := by
    rcases hm with ⟨_, _, a⟩ | ⟨a, _⟩
    · exact a
    · exact absurd rfl a
  refine jj_aload_n 2 dd_La_law_668 rfl ?_
  refine jj_aload_n 4 dd_La_law_669 rfl ?_
  refine jj_iload 0 dd_La_law_670 rfl ?_
  refine jj_iconst (v := 1) dd_La_law_672 rfl ?_
  refine jj_iadd dd_La_law_673 ?_
  refine jj_ti (x' := nI (1 + 4 * n + 1)) (nI_add (1 + 4 * n) 1) ?_
  refine jj_sald hG dd_La_law_674 (vp_in_nI (by omega) (by omega)) (1 + 4 * n + 1) (nI_clamp (by omega)) ?_
  have hr : uf_ S1.1 60 1 0 60 11 = nI (rec_ (uf_ S1.1 60 1 0)) := hsim.2.2.2.2.2.2.2.1
  have hr2 : rec_ (uf_ S1.1 60 1 0) ≤ 2 * n := hsim.2.2.2.2.2.2.2.2
  refine jj_callV (ci := 7) [_] [_] (4 * k) (22 * k) dd_La_law_675 cs_La_106 ci_La_106 (hS1.1.1 60 _ rfl) ⟨by decide, rfl⟩ rfl (Nat.le_of_ble_eq_true rfl) ⟨(Nat.le_of_ble_eq_true rfl), (Nat.le_of_ble_eq_true rfl)⟩ ⟨by omega, by omega⟩ rfl (cs_use (hcm l g S1 _ (show rec_ (uf_ S1.1 60 1 0) ≤ 1540 by omega) hr (ev _ (fun M3 hS3 => ?_))) hS1)
  refine jj_icmp_eq (tgt := 868) dd_La_law_678 (by decide) (fun _ => ?_) (fun h => absurd hrr h)
  exact nxt _ _ hS3 hI1
