theorem jj_bud {l : Launch} {y : MethodName} {cc : ByteArray} {nL : Nat} {ret : Option FieldType} {G : mm_G} {R : Room} {A : Nat → Prop} {Q : mm_O → mm_M → Prop} {mc ms mc' ms' pc : Nat} {lv : List (Nat × Value)} {st : List Value} {M : mm_M} (h : jj_ l y cc nL ret G R A Q mc' ms' pc lv st M) (h1 : mc' ≤ mc) (h2 : ms' ≤ ms) : jj_ l y cc nL ret G R A Q mc ms pc lv st M := by
  intro p e s m args below meth c H locs cells slots ls hE hH hl hL hr
  exact h p e s m args below meth c H locs cells slots ls hE hH hl hL ⟨by omega, by omega⟩
theorem inv_up {n : Nat} {S : ss_} (h : inv_ n S) : inv_ (n + 1) S := by
  obtain ⟨T, hs⟩ := h
  exact ⟨T, sim_mono hs (by omega) (fun _ _ => by omega) (by omega)⟩
theorem nI_m4 {n : Nat} (h : n ≤ 2049) : (nI n - 4).toInt = (n : Int) - 4 := by
  have e : (4 : Int32).toInt = 4 := by decide
  rw [Int32.toInt_sub, nI_toInt (by omega), e, Int.bmod_eq_of_le (by omega) (by omega)]
theorem lf_eq (x : Int32) : lfM_ x = lfC_ x := by
  unfold lfM_ lfC_
  have e20 : (20 : Int32).toInt = 20 := by decide
  by_cases h : x < 20
  · rw [if_pos h]
    have h' : x ≤ 20 := by rw [Int32.lt_iff_toInt_lt] at h; rw [Int32.le_iff_toInt_le]; omega
    rw [if_pos h']
    by_cases h1 : 1 < x
    · rw [if_pos h1, if_pos (by rw [Int32.lt_iff_toInt_lt] at h1; rw [Int32.le_iff_toInt_le]; omega)]
    · rw [if_neg h1]
      by_cases h2 : 1 ≤ x
      · rw [if_pos h2]
        apply i_eq
        rw [Int32.lt_iff_toInt_lt] at h1
        rw [Int32.le_iff_toInt_le] at h2
        omega
      · rw [if_neg h2]
  · rw [if_neg h, show (if (1 : Int32) < 20 then (20 : Int32) else 1) = 20 from by decide]
    rw [Int32.lt_iff_toInt_lt, e20] at h
    have h1 : 1 ≤ x := by rw [Int32.le_iff_toInt_le, i_1]; omega
    rw [if_pos h1]
    by_cases h2 : x ≤ 20
    · rw [if_pos h2]
      apply i_eq
      rw [Int32.le_iff_toInt_le] at h2
      omega
    · rw [if_neg h2]
set_option maxRecDepth 20000 in
theorem law_go {l : Launch} (hfl : l.flags = pinnedFlags ++ [noTraceFlag]) {G : mm_G} {A : Nat → Prop} {b L : Nat} {xs : Nat → Int32} {g : Nat → Nat} (hG : sk_ G b L xs) (hL2 : L ≤ 2049) : ∀ (k n : Nat) (S : ss_) (M : mm_M), n + k = 512 → rp_ g M S → inv_ n S → jj_ l yy_La_law code 7 (some .boolean) G room_1 A (mm_ret (fun v _ => v = some (.int 1))) (4 * k) (22 * k) 33 [(4, .int (nI (1 + 4 * n))), (3, .ref (g 100)), (2, .ref (g 60)), (1, .ref (g 0)), (0, .ref b)] [] M := by
  have hm4 := nI_m4 hL2
  intro k
  induction k with
  | zero =>
    intro n S M hn hS hI
    refine jj_iload 0 dd_La_law_33 rfl ?_
    refine jj_aload_n 4 dd_La_law_35 rfl ?_
    refine jj_slen hG dd_La_law_36 ?_
    refine jj_iconst (v := 4) dd_La_law_37 rfl ?_
    refine jj_isub dd_La_law_38 ?_
    refine jj_icmp_gt (tgt := 874) dd_La_law_39 (by decide) (fun _ => ?_) (fun h => absurd ?_ h)
    · skip
      refine jj_iconst (v := 1) dd_La_law_874 rfl ?_
      refine jj_iret dd_La_law_875 rfl rfl ?_
      exact rfl
    · rw [Int32.lt_iff_toInt_lt, hm4, nI_toInt (by omega)]
      omega
  | succ k ih =>
    intro n S M hn hS hI
    have nxt : ∀ S1 M1, rp_ g M1 S1 → inv_ (n + 1) S1 → jj_ l yy_La_law code 7 (some .boolean) G room_1 A (mm_ret (fun v _ => v = some (.int 1))) (4 * k) (22 * k) 868 [(4, .int (nI (1 + 4 * n))), (3, .ref (g 100)), (2, .ref (g 60)), (1, .ref (g 0)), (0, .ref b)] [] M1 := by
      intro S1 M1 hS1 hI1
      refine jj_iinc 0 (lv' := [(4, .int (nI (1 + 4 * (n + 1)))), (3, .ref (g 100)), (2, .ref (g 60)), (1, .ref (g 0)), (0, .ref b)]) dd_La_law_868 rfl (by have h4 := nI_add (1 + 4 * n) 4; rw [show 1 + 4 * n + 4 = 1 + 4 * (n + 1) from by omega] at h4; exact h4) (Nat.le_of_ble_eq_true rfl) rfl ?_
      refine jj_goto (tgt := 33) dd_La_law_871 (by decide) ?_
      exact ih (n + 1) S1 M1 (by omega) hS1 hI1
    refine jj_iload 0 dd_La_law_33 rfl ?_
    refine jj_aload_n 4 dd_La_law_35 rfl ?_
    refine jj_slen hG dd_La_law_36 ?_
    refine jj_iconst (v := 4) dd_La_law_37 rfl ?_
    refine jj_isub dd_La_law_38 ?_
    refine jj_icmp_gt (tgt := 874) dd_La_law_39 (by decide) (fun _ => ?_) (fun h => ?_)
    · skip
      refine jj_iconst (v := 1) dd_La_law_874 rfl ?_
      refine jj_iret dd_La_law_875 rfl rfl ?_
      exact rfl
    · skip
      rw [Int32.lt_iff_toInt_lt, hm4, nI_toInt (by omega)] at h
      have hL : 4 + 4 * n < L := by omega
      refine jj_aload_n 4 dd_La_law_42 rfl ?_
      refine jj_iload 0 dd_La_law_43 rfl ?_
      refine jj_sald hG dd_La_law_45 (vp_in_nI (by omega) (by omega)) (1 + 4 * n) (nI_clamp (by omega)) ?_
      refine jj_bipush (v := 31) dd_La_law_46 rfl ?_
      refine jj_iand dd_La_law_48 ?_
      generalize xs (1 + 4 * n) &&& 31 = v
      refine mm_sw18 (x := v) (fun ho => ?_) (fun hv => ?_) (fun hv => ?_) (fun hv => ?_) (fun hv => ?_) (fun hv => ?_) (fun hv => ?_) (fun hv => ?_) (fun hv => ?_) (fun hv => ?_) (fun hv => ?_) (fun hv => ?_) (fun hv => ?_) (fun hv => ?_) (fun hv => ?_) (fun hv => ?_) (fun hv => ?_) (fun hv => ?_) (fun hv => ?_)
      · skip
        refine jj_tableOut (tgt := 868) dd_La_law_49 ho (by decide) ?_
        exact jj_bud (nxt S M hS (inv_up hI)) (by omega) (by omega)
      · rw [hv]
        refine jj_tableIn (tgt := 136) dd_La_law_49 (by decide) (by decide) rfl (by decide) ?_
        exact lc_begin hfl hG (by omega) hL hL2 hS hI nxt
      · rw [hv]
        refine jj_tableIn (tgt := 192) dd_La_law_49 (by decide) (by decide) rfl (by decide) ?_
        exact lc_get hfl hG (by omega) hL hL2 hS hI nxt
      · rw [hv]
        refine jj_tableIn (tgt := 260) dd_La_law_49 (by decide) (by decide) rfl (by decide) ?_
        exact lc_set hfl hG (by omega) hL hL2 hS hI nxt
      · rw [hv]
        refine jj_tableIn (tgt := 320) dd_La_law_49 (by decide) (by decide) rfl (by decide) ?_
        exact lc_erase hfl hG (by omega) hL hL2 hS hI nxt
      · rw [hv]
        refine jj_tableIn (tgt := 368) dd_La_law_49 (by decide) (by decide) rfl (by decide) ?_
        exact lc_step hfl hG (by omega) hL hL2 hS hI nxt
      · rw [hv]
        refine jj_tableIn (tgt := 424) dd_La_law_49 (by decide) (by decide) rfl (by decide) ?_
        exact lc_kill hfl hG (by omega) hL hL2 hS hI nxt
      · rw [hv]
        refine jj_tableIn (tgt := 449) dd_La_law_49 (by decide) (by decide) rfl (by decide) ?_
        exact lc_clear hfl hG (by omega) hL hL2 hS hI nxt
      · rw [hv]
        refine jj_tableIn (tgt := 505) dd_La_law_49 (by decide) (by decide) rfl (by decide) ?_
        exact lc_tick hfl hG (by omega) hL hL2 hS hI nxt
      · rw [hv]
        refine jj_tableIn (tgt := 530) dd_La_law_49 (by decide) (by decide) rfl (by decide) ?_
        exact lc_crash hfl hG (by omega) hL hL2 hS hI nxt
      · rw [hv]
        refine jj_tableIn (tgt := 555) dd_La_law_49 (by decide) (by decide) rfl (by decide) ?_
        exact lc_recover hfl hG (by omega) hL hL2 hS hI nxt
      · rw [hv]
        refine jj_tableIn (tgt := 580) dd_La_law_49 (by decide) (by decide) rfl (by decide) ?_
        by_cases h3 : xs (1 + 4 * n + 3) = 0
        · exact lc_fail0 hfl hG (by omega) hL hL2 hS hI h3 nxt
        · exact lc_fail1 hfl hG (by omega) hL hL2 hS hI h3 nxt
      · rw [hv]
        refine jj_tableIn (tgt := 645) dd_La_law_49 (by decide) (by decide) rfl (by decide) ?_
        exact lc_failOracle hfl hG (by omega) hL hL2 hS hI nxt
      · rw [hv]
        refine jj_tableIn (tgt := 658) dd_La_law_49 (by decide) (by decide) rfl (by decide) ?_
        exact lc_sweep hfl hG (by omega) hL hL2 hS hI nxt
      · rw [hv]
        refine jj_tableIn (tgt := 683) dd_La_law_49 (by decide) (by decide) rfl (by decide) ?_
        exact lc_transaction hfl hG (by omega) hL hL2 hS hI nxt
      · rw [hv]
        refine jj_tableIn (tgt := 720) dd_La_law_49 (by decide) (by decide) rfl (by decide) ?_
        exact lc_lock hfl hG (by omega) hL hL2 hS hI nxt
      · rw [hv]
        refine jj_tableIn (tgt := 757) dd_La_law_49 (by decide) (by decide) rfl (by decide) ?_
        exact lc_record hfl hG (by omega) hL hL2 hS hI nxt
      · rw [hv]
        refine jj_tableIn (tgt := 806) dd_La_law_49 (by decide) (by decide) rfl (by decide) ?_
        exact lc_tablet hfl hG (by omega) hL hL2 hS hI nxt
      · rw [hv]
        refine jj_tableIn (tgt := 843) dd_La_law_49 (by decide) (by decide) rfl (by decide) ?_
        exact lc_oracle hfl hG (by omega) hL hL2 hS hI nxt
