theorem vo_ {x : Int32} {n : Nat} (hn : n + 1 < 2 ^ 31) (h : ¬ vp_in x (n + 1)) : x < 0 ∨ nI n < x := by
  by_cases h0 : x < 0
  · exact Or.inl h0
  · refine Or.inr ?_
    obtain ⟨j, j1, j2⟩ := nI_of h0
    subst j2
    have : ¬ j < n + 1 := fun e => h (vp_in_nI e hn)
    exact nI_lt (by omega) j1
theorem vi_ {x : Int32} {n : Nat} (hn : n + 1 < 2 ^ 31) (h : vp_in x (n + 1)) : ¬ x < 0 ∧ ¬ nI n < x := by
  obtain ⟨j, j1, j2⟩ := vp_in_of h hn
  subst j2
  exact ⟨nI_pos (by omega), nI_nlt (by omega) (by omega)⟩
theorem xs_c {x : Int32} {N : Nat} (hN : N < 2 ^ 31) (h : vp_in x N) : ∃ c, c < N ∧ x = nI c := by
  obtain ⟨c, h1, h2⟩ := vp_in_of h hN
  exact ⟨c, h1, h2⟩
theorem rp_row {g : Nat → Nat} {M : mm_M} {S : ss_} (h : rp_ g M S) : mm_i M (g 100) 0 = S.1 100 0 := h.2.1 100 _ rfl 0
set_option maxRecDepth 20000 in
theorem lc_begin {l : Launch} (hfl : l.flags = pinnedFlags ++ [noTraceFlag]) {G : mm_G} {A : Nat → Prop} {b L n k : Nat} {xs : Nat → Int32} {g : Nat → Nat} {S : ss_} {M : mm_M} (hG : sk_ G b L xs) (hn : n < 512) (hL : 4 + 4 * n < L) (hL2 : L ≤ 2049) (hS : rp_ g M S) (hI : inv_ n S) (nxt : ∀ S1 M1, rp_ g M1 S1 → inv_ (n + 1) S1 → jj_ l yy_La_law code 7 (some .boolean) G room_1 A (mm_ret (fun v _ => v = some (.int 1))) (4 * k) (22 * k) 868 [(4, .int (nI (1 + 4 * n))), (3, .ref (g 100)), (2, .ref (g 60)), (1, .ref (g 0)), (0, .ref b)] [] M1) : jj_ l yy_La_law code 7 (some .boolean) G room_1 A (mm_ret (fun v _ => v = some (.int 1))) (4 * (k + 1)) (22 * (k + 1)) 136 [(4, .int (nI (1 + 4 * n))), (3, .ref (g 100)), (2, .ref (g 60)), (1, .ref (g 0)), (0, .ref b)] [] M := by
  by_cases hc0 : vp_in (xs (1 + 4 * n + 1)) 4
  · obtain ⟨c, hc, ec⟩ := xs_c (by decide) hc0
    refine jj_aload_n 3 dd_La_law_136 rfl ?_
    refine jj_aload_n 4 dd_La_law_137 rfl ?_
    refine jj_iload 0 dd_La_law_138 rfl ?_
    refine jj_iconst (v := 1) dd_La_law_140 rfl ?_
    refine jj_iadd dd_La_law_141 ?_
    refine jj_ti (x' := nI (1 + 4 * n + 1)) (nI_add (1 + 4 * n) 1) ?_
    refine jj_sald hG dd_La_law_142 (vp_in_nI (by omega) (by omega)) (1 + 4 * n + 1) (nI_clamp (by omega)) ?_
    refine jj_ti (x' := nI c) ec ?_
    refine jj_aload_n 1 dd_La_law_143 rfl ?_
    refine jj_callW (n := 3) [.ref (g 0), .int (nI c), .ref (g 100)] [] (4 * k) (22 * k) dd_La_law_144 cww_La_begin ck_La ⟨by decide, by decide, by decide +kernel⟩ lk_La_51 ci_La_51 rfl (Nat.le_of_ble_eq_true rfl) ⟨(Nat.le_of_ble_eq_true rfl), (Nat.le_of_ble_eq_true rfl)⟩ ⟨by omega, by omega⟩ rfl (cw_La_begin hfl hS hc ?_)
    refine dt3_mono dt_be (dt3_and dt_be (top_ dt_be (op_be hc) (by omega) hI) be_e) (fun e r S1 hx => ⟨hx.2, fun M1 hS1 => ?_⟩)
    obtain ⟨⟨_, ht⟩, _⟩ := hx
    have cont : ∀ (Fb : Nat → Nat → Int32) (M2 : mm_M) (kv : Int32), rp_ g M2 (Fb, S1.2) → (∀ n j, n < 91 → Fb n j = S1.1 n j) → (∀ r' w, mt_ cdn_ e r r' w → w = kv ∧ (kv = 0 → r = r' ∧ Fb 100 0 = r)) → jj_ l yy_La_law code 7 (some .boolean) G room_1 A (mm_ret (fun v _ => v = some (.int 1))) (4 * k) (22 * k) 147 [(4, .int (nI (1 + 4 * n))), (3, .ref (g 100)), (2, .ref (g 60)), (1, .ref (g 0)), (0, .ref b)] [.int kv] M2 := by
      intro Fb M2 kv hS2 hFb hkv
      obtain ⟨r', F1, ev, hm, hrow, hI1, T, hsim⟩ := ht Fb hFb
      obtain ⟨hw, hz0⟩ := hkv r' (F1 60 1) hm
      have hz : kv = 0 → r = r' ∧ F1 100 0 = r := fun h => ⟨(hz0 h).1, (hrow 100 0 (by omega)).trans (hz0 h).2⟩
      refine jj_istore (lv' := [(5, .int kv), (4, .int (nI (1 + 4 * n))), (3, .ref (g 100)), (2, .ref (g 60)), (1, .ref (g 0)), (0, .ref b)]) dd_La_law_147 (Nat.le_of_ble_eq_true rfl) rfl ?_
      refine jj_aload_n 3 dd_La_law_149 rfl ?_
      refine jj_aload_n 5 dd_La_law_150 rfl ?_
      refine jj_iload 1 dd_La_law_151 rfl ?_
      refine jj_iconst (v := 1) dd_La_law_153 rfl ?_
      refine jj_iadd dd_La_law_154 ?_
      refine jj_ti (x' := nI (1 + 4 * n + 1)) (nI_add (1 + 4 * n) 1) ?_
      refine jj_sald hG dd_La_law_155 (vp_in_nI (by omega) (by omega)) (1 + 4 * n + 1) (nI_clamp (by omega)) ?_
      refine jj_ti (x' := nI c) ec ?_
      refine jj_callV (ci := 7) [_] [] (4 * k) (22 * k) dd_La_law_156 cs_La_54 ci_La_54 (hS2.1.1 60 _ rfl) ⟨by decide, rfl⟩ rfl (Nat.le_of_ble_eq_true rfl) ⟨(Nat.le_of_ble_eq_true rfl), (Nat.le_of_ble_eq_true rfl)⟩ ⟨by omega, by omega⟩ rfl (cs_use (cs_Mo_begin rfl hc ?_) hS2)
      have ev2 : ∀ K', K' r' F1 → be_ (uf_ Fb 60 1 0) c K' := ev
      show be_ (uf_ Fb 60 1 0) c _
      generalize be_ (uf_ Fb 60 1 0) c = WW at ev2 ⊢
      refine ev2 _ (fun M3 hS3 => ?_)
      refine jj_istore (lv' := [(6, .int r'), (5, .int kv), (4, .int (nI (1 + 4 * n))), (3, .ref (g 100)), (2, .ref (g 60)), (1, .ref (g 0)), (0, .ref b)]) dd_La_law_159 (Nat.le_of_ble_eq_true rfl) rfl ?_
      refine jj_aload_n 4 dd_La_law_161 rfl ?_
      refine jj_callV (ci := 7) [] [] (4 * k) (22 * k) dd_La_law_162 cs_La_55 ci_La_55 (hS3.1.1 60 _ rfl) ⟨by decide, rfl⟩ rfl (Nat.le_of_ble_eq_true rfl) ⟨(Nat.le_of_ble_eq_true rfl), (Nat.le_of_ble_eq_true rfl)⟩ ⟨by omega, by omega⟩ rfl (cs_use (cs_Mo_thrown (fun M4 hS4 => ?_)) hS3)
      refine jj_iload 1 dd_La_law_165 rfl ?_
      refine jj_icmp_eq (tgt := 172) dd_La_law_167 (by decide) (fun _ => ?_) (fun h => absurd hw h)
      refine jj_iload 1 dd_La_law_172 rfl ?_
      refine jj_if_ne (tgt := 189) dd_La_law_174 (by decide) (fun _ => ?_) (fun h0 => ?_)
      · skip
        refine jj_goto (tgt := 868) dd_La_law_189 (by decide) ?_
        refine jj_sub [2, 3, 4, 5, 6] rfl ?_
        exact nxt _ _ hS4 hI1
      · skip
        obtain ⟨hz1, hz2⟩ := hz h0
        refine jj_aload_n 3 dd_La_law_177 rfl ?_
        refine jj_iconst (v := 0) dd_La_law_178 rfl ?_
        refine jj_lald dd_La_law_179 (hS4.1.1 100 _ rfl) (vp_in_nI (n := 0) (by decide) (by decide)) ?_
        refine jj_iload 0 dd_La_law_180 rfl ?_
        refine jj_i2l dd_La_law_182 ?_
        refine jj_lcmp dd_La_law_183 ?_
        refine jj_if_eq (tgt := 189) dd_La_law_184 (by decide) (fun _ => ?_) (fun h => absurd ?_ h)
        · skip
          refine jj_goto (tgt := 868) dd_La_law_189 (by decide) ?_
          refine jj_sub [2, 3, 4, 5, 6] rfl ?_
          exact nxt _ _ hS4 hI1
        · rw [lg_cmp_eq]
          show (mm_i M4 (g 100) 0).toInt64 = _
          rw [rp_row hS4]
          show (F1 100 0).toInt64 = _
          rw [hz2, hz1]
    refine ⟨fun h0 => ?_, fun h0 => ?_⟩
    · refine cont (uf_ S1.1 100 0 r) _ 0 (rp_si (n := 100) hS1 rfl) (fun n j hn => uf_o _ _ _ _ _ _ (by omega)) (fun r' w hm => ?_)
      rcases hm with ⟨_, a, b⟩ | ⟨a, _⟩
      · exact ⟨a, fun _ => ⟨b, uf_s _ _ _ _⟩⟩
      · exact absurd h0 a
    · refine cont S1.1 _ (cdn_ e) hS1 (fun _ _ _ => rfl) (fun r' w hm => ?_)
      rcases hm with ⟨a, _⟩ | ⟨a, b, c⟩
      · exact absurd a h0
      · exact ⟨c, fun h => absurd h (cdn_z e a b)⟩
  · skip
    refine jj_aload_n 3 dd_La_law_136 rfl ?_
    refine jj_aload_n 4 dd_La_law_137 rfl ?_
    refine jj_iload 0 dd_La_law_138 rfl ?_
    refine jj_iconst (v := 1) dd_La_law_140 rfl ?_
    refine jj_iadd dd_La_law_141 ?_
    refine jj_ti (x' := nI (1 + 4 * n + 1)) (nI_add (1 + 4 * n) 1) ?_
    refine jj_sald hG dd_La_law_142 (vp_in_nI (by omega) (by omega)) (1 + 4 * n + 1) (nI_clamp (by omega)) ?_
    refine jj_aload_n 1 dd_La_law_143 rfl ?_
    refine jj_callW (n := 3) [.ref (g 0), .int (xs (1 + 4 * n + 1)), .ref (g 100)] [] (4 * k) (22 * k) dd_La_law_144 cww_La_begin ck_La ⟨by decide, by decide, by decide +kernel⟩ lk_La_51 ci_La_51 rfl (Nat.le_of_ble_eq_true rfl) ⟨(Nat.le_of_ble_eq_true rfl), (Nat.le_of_ble_eq_true rfl)⟩ ⟨by omega, by omega⟩ rfl (cw_La_begin0 hfl hS hc0 ?_)
    show jj_ _ _ _ _ _ _ _ _ _ _ _ 147 _ [.int 1] M
    refine jj_istore (lv' := [(5, .int 1), (4, .int (nI (1 + 4 * n))), (3, .ref (g 100)), (2, .ref (g 60)), (1, .ref (g 0)), (0, .ref b)]) dd_La_law_147 (Nat.le_of_ble_eq_true rfl) rfl ?_
    refine jj_aload_n 3 dd_La_law_149 rfl ?_
    refine jj_aload_n 5 dd_La_law_150 rfl ?_
    refine jj_iload 1 dd_La_law_151 rfl ?_
    refine jj_iconst (v := 1) dd_La_law_153 rfl ?_
    refine jj_iadd dd_La_law_154 ?_
    refine jj_ti (x' := nI (1 + 4 * n + 1)) (nI_add (1 + 4 * n) 1) ?_
    refine jj_sald hG dd_La_law_155 (vp_in_nI (by omega) (by omega)) (1 + 4 * n + 1) (nI_clamp (by omega)) ?_
    refine jj_callV (ci := 7) [_] [] (4 * k) (22 * k) dd_La_law_156 cs_La_54 ci_La_54 (hS.1.1 60 _ rfl) ⟨by decide, rfl⟩ rfl (Nat.le_of_ble_eq_true rfl) ⟨(Nat.le_of_ble_eq_true rfl), (Nat.le_of_ble_eq_true rfl)⟩ ⟨by omega, by omega⟩ rfl (cs_use (cs_Mo_begin0 rfl (vo_ (n := 3) (by decide) hc0) (fun M3 hS3 => ?_)) hS)
    have hI1 := inv_err (x := 1) hI
    generalize hF1 : uf_ (uf_ S.1 60 1 0) 60 1 1 = F1 at hS3 hI1
    have hw : F1 60 1 = 1 := by rw [← hF1]; exact uf_s _ _ _ _
    have hz : (1 : Int32) = 0 → (0 : Int32) = 0 ∧ F1 100 0 = 0 := fun h => absurd h (by decide)
    refine jj_istore (lv' := [(6, .int 0), (5, .int 1), (4, .int (nI (1 + 4 * n))), (3, .ref (g 100)), (2, .ref (g 60)), (1, .ref (g 0)), (0, .ref b)]) dd_La_law_159 (Nat.le_of_ble_eq_true rfl) rfl ?_
    refine jj_aload_n 4 dd_La_law_161 rfl ?_
    refine jj_callV (ci := 7) [] [] (4 * k) (22 * k) dd_La_law_162 cs_La_55 ci_La_55 (hS3.1.1 60 _ rfl) ⟨by decide, rfl⟩ rfl (Nat.le_of_ble_eq_true rfl) ⟨(Nat.le_of_ble_eq_true rfl), (Nat.le_of_ble_eq_true rfl)⟩ ⟨by omega, by omega⟩ rfl (cs_use (cs_Mo_thrown (fun M4 hS4 => ?_)) hS3)
    refine jj_iload 1 dd_La_law_165 rfl ?_
    refine jj_icmp_eq (tgt := 172) dd_La_law_167 (by decide) (fun _ => ?_) (fun h => absurd hw h)
    refine jj_iload 1 dd_La_law_172 rfl ?_
    refine jj_if_ne (tgt := 189) dd_La_law_174 (by decide) (fun _ => ?_) (fun h0 => ?_)
    · skip
      refine jj_goto (tgt := 868) dd_La_law_189 (by decide) ?_
      refine jj_sub [2, 3, 4, 5, 6] rfl ?_
      exact nxt _ _ hS4 hI1
    · skip
      obtain ⟨hz1, hz2⟩ := hz h0
      refine jj_aload_n 3 dd_La_law_177 rfl ?_
      refine jj_iconst (v := 0) dd_La_law_178 rfl ?_
      refine jj_lald dd_La_law_179 (hS4.1.1 100 _ rfl) (vp_in_nI (n := 0) (by decide) (by decide)) ?_
      refine jj_iload 0 dd_La_law_180 rfl ?_
      refine jj_i2l dd_La_law_182 ?_
      refine jj_lcmp dd_La_law_183 ?_
      refine jj_if_eq (tgt := 189) dd_La_law_184 (by decide) (fun _ => ?_) (fun h => absurd ?_ h)
      · skip
        refine jj_goto (tgt := 868) dd_La_law_189 (by decide) ?_
        refine jj_sub [2, 3, 4, 5, 6] rfl ?_
        exact nxt _ _ hS4 hI1
      · rw [lg_cmp_eq]
        show (mm_i M4 (g 100) 0).toInt64 = _
        rw [rp_row hS4]
        show (F1 100 0).toInt64 = _
        rw [hz2, hz1]
set_option maxRecDepth 20000 in
theorem lc_get {l : Launch} (hfl : l.flags = pinnedFlags ++ [noTraceFlag]) {G : mm_G} {A : Nat → Prop} {b L n k : Nat} {xs : Nat → Int32} {g : Nat → Nat} {S : ss_} {M : mm_M} (hG : sk_ G b L xs) (hn : n < 512) (hL : 4 + 4 * n < L) (hL2 : L ≤ 2049) (hS : rp_ g M S) (hI : inv_ n S) (nxt : ∀ S1 M1, rp_ g M1 S1 → inv_ (n + 1) S1 → jj_ l yy_La_law code 7 (some .boolean) G room_1 A (mm_ret (fun v _ => v = some (.int 1))) (4 * k) (22 * k) 868 [(4, .int (nI (1 + 4 * n))), (3, .ref (g 100)), (2, .ref (g 60)), (1, .ref (g 0)), (0, .ref b)] [] M1) : jj_ l yy_La_law code 7 (some .boolean) G room_1 A (mm_ret (fun v _ => v = some (.int 1))) (4 * (k + 1)) (22 * (k + 1)) 192 [(4, .int (nI (1 + 4 * n))), (3, .ref (g 100)), (2, .ref (g 60)), (1, .ref (g 0)), (0, .ref b)] [] M := by
  by_cases hc0 : vp_in (xs (1 + 4 * n + 1)) 4
  · by_cases hi0 : vp_in (xs (1 + 4 * n + 2)) 12
    · obtain ⟨c, hc, ec⟩ := xs_c (by decide) hc0
      obtain ⟨i, hi, ei⟩ := xs_c (by decide) hi0
      refine jj_aload_n 3 dd_La_law_192 rfl ?_
      refine jj_aload_n 4 dd_La_law_193 rfl ?_
      refine jj_iload 0 dd_La_law_194 rfl ?_
      refine jj_iconst (v := 1) dd_La_law_196 rfl ?_
      refine jj_iadd dd_La_law_197 ?_
      refine jj_ti (x' := nI (1 + 4 * n + 1)) (nI_add (1 + 4 * n) 1) ?_
      refine jj_sald hG dd_La_law_198 (vp_in_nI (by omega) (by omega)) (1 + 4 * n + 1) (nI_clamp (by omega)) ?_
      refine jj_ti (x' := nI c) ec ?_
      refine jj_aload_n 4 dd_La_law_199 rfl ?_
      refine jj_iload 0 dd_La_law_200 rfl ?_
      refine jj_iconst (v := 2) dd_La_law_202 rfl ?_
      refine jj_iadd dd_La_law_203 ?_
      refine jj_ti (x' := nI (1 + 4 * n + 2)) (nI_add (1 + 4 * n) 2) ?_
      refine jj_sald hG dd_La_law_204 (vp_in_nI (by omega) (by omega)) (1 + 4 * n + 2) (nI_clamp (by omega)) ?_
      refine jj_ti (x' := nI i) ei ?_
      refine jj_aload_n 1 dd_La_law_205 rfl ?_
      refine jj_callW (n := 4) [.ref (g 0), .int (nI c), .int (nI i), .ref (g 100)] [] (4 * k) (22 * k) dd_La_law_206 cww_La_get ck_La ⟨by decide, by decide, by decide +kernel⟩ lk_La_59 ci_La_59 rfl (Nat.le_of_ble_eq_true rfl) ⟨(Nat.le_of_ble_eq_true rfl), (Nat.le_of_ble_eq_true rfl)⟩ ⟨by omega, by omega⟩ rfl (cw_La_get hfl hS hc hi (inv_ci hn hI) ?_)
      refine dt3_mono dt_gt (dt3_and dt_gt (top_ dt_gt (op_gt hc hi) (by omega) hI) gt_e) (fun e r S1 hx => ⟨hx.2, fun M1 hS1 => ?_⟩)
      obtain ⟨⟨_, ht⟩, _⟩ := hx
      have cont : ∀ (Fb : Nat → Nat → Int32) (M2 : mm_M) (kv : Int32), rp_ g M2 (Fb, S1.2) → (∀ n j, n < 91 → Fb n j = S1.1 n j) → (∀ r' w, mt_ cdn_ e r r' w → w = kv ∧ (kv = 0 → r = r' ∧ Fb 100 0 = r)) → jj_ l yy_La_law code 7 (some .boolean) G room_1 A (mm_ret (fun v _ => v = some (.int 1))) (4 * k) (22 * k) 209 [(4, .int (nI (1 + 4 * n))), (3, .ref (g 100)), (2, .ref (g 60)), (1, .ref (g 0)), (0, .ref b)] [.int kv] M2 := by
        intro Fb M2 kv hS2 hFb hkv
        obtain ⟨r', F1, ev, hm, hrow, hI1, T, hsim⟩ := ht Fb hFb
        obtain ⟨hw, hz0⟩ := hkv r' (F1 60 1) hm
        have hz : kv = 0 → r = r' ∧ F1 100 0 = r := fun h => ⟨(hz0 h).1, (hrow 100 0 (by omega)).trans (hz0 h).2⟩
        refine jj_istore (lv' := [(5, .int kv), (4, .int (nI (1 + 4 * n))), (3, .ref (g 100)), (2, .ref (g 60)), (1, .ref (g 0)), (0, .ref b)]) dd_La_law_209 (Nat.le_of_ble_eq_true rfl) rfl ?_
        refine jj_aload_n 3 dd_La_law_211 rfl ?_
        refine jj_aload_n 5 dd_La_law_212 rfl ?_
        refine jj_iload 1 dd_La_law_213 rfl ?_
        refine jj_iconst (v := 1) dd_La_law_215 rfl ?_
        refine jj_iadd dd_La_law_216 ?_
        refine jj_ti (x' := nI (1 + 4 * n + 1)) (nI_add (1 + 4 * n) 1) ?_
        refine jj_sald hG dd_La_law_217 (vp_in_nI (by omega) (by omega)) (1 + 4 * n + 1) (nI_clamp (by omega)) ?_
        refine jj_ti (x' := nI c) ec ?_
        refine jj_aload_n 5 dd_La_law_218 rfl ?_
        refine jj_iload 1 dd_La_law_219 rfl ?_
        refine jj_iconst (v := 2) dd_La_law_221 rfl ?_
        refine jj_iadd dd_La_law_222 ?_
        refine jj_ti (x' := nI (1 + 4 * n + 2)) (nI_add (1 + 4 * n) 2) ?_
        refine jj_sald hG dd_La_law_223 (vp_in_nI (by omega) (by omega)) (1 + 4 * n + 2) (nI_clamp (by omega)) ?_
        refine jj_ti (x' := nI i) ei ?_
        have hok : ok_ (uf_ Fb 60 1 0) := hsim.2.2.2.1
        have hr := hsim.2.2.2.2.2.2.2.1
        have hr2 := hsim.2.2.2.2.2.2.2.2
        refine jj_callV (ci := 7) [_, _] [] (4 * k) (22 * k) dd_La_law_224 cs_La_62 ci_La_62 (hS2.1.1 60 _ rfl) ⟨by decide, rfl⟩ rfl (Nat.le_of_ble_eq_true rfl) ⟨(Nat.le_of_ble_eq_true rfl), (Nat.le_of_ble_eq_true rfl)⟩ ⟨by omega, by omega⟩ rfl (cs_use (cs_Mo_get rfl hc hi hok hr (show rec_ (uf_ Fb 60 1 0) < 1538 by omega) ?_) hS2)
        have ev2 : ∀ K', K' r' F1 → ge_ (uf_ Fb 60 1 0) c i K' := ev
        show ge_ (uf_ Fb 60 1 0) c i _
        generalize ge_ (uf_ Fb 60 1 0) c i = WW at ev2 ⊢
        refine ev2 _ (fun M3 hS3 => ?_)
        refine jj_istore (lv' := [(6, .int r'), (5, .int kv), (4, .int (nI (1 + 4 * n))), (3, .ref (g 100)), (2, .ref (g 60)), (1, .ref (g 0)), (0, .ref b)]) dd_La_law_227 (Nat.le_of_ble_eq_true rfl) rfl ?_
        refine jj_aload_n 4 dd_La_law_229 rfl ?_
        refine jj_callV (ci := 7) [] [] (4 * k) (22 * k) dd_La_law_230 cs_La_55 ci_La_55 (hS3.1.1 60 _ rfl) ⟨by decide, rfl⟩ rfl (Nat.le_of_ble_eq_true rfl) ⟨(Nat.le_of_ble_eq_true rfl), (Nat.le_of_ble_eq_true rfl)⟩ ⟨by omega, by omega⟩ rfl (cs_use (cs_Mo_thrown (fun M4 hS4 => ?_)) hS3)
        refine jj_iload 1 dd_La_law_233 rfl ?_
        refine jj_icmp_eq (tgt := 240) dd_La_law_235 (by decide) (fun _ => ?_) (fun h => absurd hw h)
        refine jj_iload 1 dd_La_law_240 rfl ?_
        refine jj_if_ne (tgt := 257) dd_La_law_242 (by decide) (fun _ => ?_) (fun h0 => ?_)
        · skip
          refine jj_goto (tgt := 868) dd_La_law_257 (by decide) ?_
          refine jj_sub [2, 3, 4, 5, 6] rfl ?_
          exact nxt _ _ hS4 hI1
        · skip
          obtain ⟨hz1, hz2⟩ := hz h0
          refine jj_aload_n 3 dd_La_law_245 rfl ?_
          refine jj_iconst (v := 0) dd_La_law_246 rfl ?_
          refine jj_lald dd_La_law_247 (hS4.1.1 100 _ rfl) (vp_in_nI (n := 0) (by decide) (by decide)) ?_
          refine jj_iload 0 dd_La_law_248 rfl ?_
          refine jj_i2l dd_La_law_250 ?_
          refine jj_lcmp dd_La_law_251 ?_
          refine jj_if_eq (tgt := 257) dd_La_law_252 (by decide) (fun _ => ?_) (fun h => absurd ?_ h)
          · skip
            refine jj_goto (tgt := 868) dd_La_law_257 (by decide) ?_
            refine jj_sub [2, 3, 4, 5, 6] rfl ?_
            exact nxt _ _ hS4 hI1
          · rw [lg_cmp_eq]
            show (mm_i M4 (g 100) 0).toInt64 = _
            rw [rp_row hS4]
            show (F1 100 0).toInt64 = _
            rw [hz2, hz1]
      refine ⟨fun h0 => ?_, fun h0 => ?_⟩
      · refine cont (uf_ S1.1 100 0 r) _ 0 (rp_si (n := 100) hS1 rfl) (fun n j hn => uf_o _ _ _ _ _ _ (by omega)) (fun r' w hm => ?_)
        rcases hm with ⟨_, a, b⟩ | ⟨a, _⟩
        · exact ⟨a, fun _ => ⟨b, uf_s _ _ _ _⟩⟩
        · exact absurd h0 a
      · refine cont S1.1 _ (cdn_ e) hS1 (fun _ _ _ => rfl) (fun r' w hm => ?_)
        rcases hm with ⟨a, _⟩ | ⟨a, b, c⟩
        · exact absurd a h0
        · exact ⟨c, fun h => absurd h (cdn_z e a b)⟩
    · skip
      refine jj_aload_n 3 dd_La_law_192 rfl ?_
      refine jj_aload_n 4 dd_La_law_193 rfl ?_
      refine jj_iload 0 dd_La_law_194 rfl ?_
      refine jj_iconst (v := 1) dd_La_law_196 rfl ?_
      refine jj_iadd dd_La_law_197 ?_
      refine jj_ti (x' := nI (1 + 4 * n + 1)) (nI_add (1 + 4 * n) 1) ?_
      refine jj_sald hG dd_La_law_198 (vp_in_nI (by omega) (by omega)) (1 + 4 * n + 1) (nI_clamp (by omega)) ?_
      refine jj_aload_n 4 dd_La_law_199 rfl ?_
      refine jj_iload 0 dd_La_law_200 rfl ?_
      refine jj_iconst (v := 2) dd_La_law_202 rfl ?_
      refine jj_iadd dd_La_law_203 ?_
      refine jj_ti (x' := nI (1 + 4 * n + 2)) (nI_add (1 + 4 * n) 2) ?_
      refine jj_sald hG dd_La_law_204 (vp_in_nI (by omega) (by omega)) (1 + 4 * n + 2) (nI_clamp (by omega)) ?_
      refine jj_aload_n 1 dd_La_law_205 rfl ?_
      refine jj_callW (n := 4) [.ref (g 0), .int (xs (1 + 4 * n + 1)), .int (xs (1 + 4 * n + 2)), .ref (g 100)] [] (4 * k) (22 * k) dd_La_law_206 cww_La_get ck_La ⟨by decide, by decide, by decide +kernel⟩ lk_La_59 ci_La_59 rfl (Nat.le_of_ble_eq_true rfl) ⟨(Nat.le_of_ble_eq_true rfl), (Nat.le_of_ble_eq_true rfl)⟩ ⟨by omega, by omega⟩ rfl (cw_La_get0 hfl hS (Or.inr hi0) ?_)
      show jj_ _ _ _ _ _ _ _ _ _ _ _ 209 _ [.int 1] M
      refine jj_istore (lv' := [(5, .int 1), (4, .int (nI (1 + 4 * n))), (3, .ref (g 100)), (2, .ref (g 60)), (1, .ref (g 0)), (0, .ref b)]) dd_La_law_209 (Nat.le_of_ble_eq_true rfl) rfl ?_
      refine jj_aload_n 3 dd_La_law_211 rfl ?_
      refine jj_aload_n 5 dd_La_law_212 rfl ?_
      refine jj_iload 1 dd_La_law_213 rfl ?_
      refine jj_iconst (v := 1) dd_La_law_215 rfl ?_
      refine jj_iadd dd_La_law_216 ?_
      refine jj_ti (x' := nI (1 + 4 * n + 1)) (nI_add (1 + 4 * n) 1) ?_
      refine jj_sald hG dd_La_law_217 (vp_in_nI (by omega) (by omega)) (1 + 4 * n + 1) (nI_clamp (by omega)) ?_
      refine jj_aload_n 5 dd_La_law_218 rfl ?_
      refine jj_iload 1 dd_La_law_219 rfl ?_
      refine jj_iconst (v := 2) dd_La_law_221 rfl ?_
      refine jj_iadd dd_La_law_222 ?_
      refine jj_ti (x' := nI (1 + 4 * n + 2)) (nI_add (1 + 4 * n) 2) ?_
      refine jj_sald hG dd_La_law_223 (vp_in_nI (by omega) (by omega)) (1 + 4 * n + 2) (nI_clamp (by omega)) ?_
      refine jj_callV (ci := 7) [_, _] [] (4 * k) (22 * k) dd_La_law_224 cs_La_62 ci_La_62 (hS.1.1 60 _ rfl) ⟨by decide, rfl⟩ rfl (Nat.le_of_ble_eq_true rfl) ⟨(Nat.le_of_ble_eq_true rfl), (Nat.le_of_ble_eq_true rfl)⟩ ⟨by omega, by omega⟩ rfl (cs_use (cs_Mo_get0 rfl (Or.inr (vo_ (n := 11) (by decide) hi0)) (fun M3 hS3 => ?_)) hS)
      have hI1 := inv_err (x := 1) hI
      generalize hF1 : uf_ (uf_ S.1 60 1 0) 60 1 1 = F1 at hS3 hI1
      have hw : F1 60 1 = 1 := by rw [← hF1]; exact uf_s _ _ _ _
      have hz : (1 : Int32) = 0 → (0 : Int32) = 0 ∧ F1 100 0 = 0 := fun h => absurd h (by decide)
      refine jj_istore (lv' := [(6, .int 0), (5, .int 1), (4, .int (nI (1 + 4 * n))), (3, .ref (g 100)), (2, .ref (g 60)), (1, .ref (g 0)), (0, .ref b)]) dd_La_law_227 (Nat.le_of_ble_eq_true rfl) rfl ?_
      refine jj_aload_n 4 dd_La_law_229 rfl ?_
      refine jj_callV (ci := 7) [] [] (4 * k) (22 * k) dd_La_law_230 cs_La_55 ci_La_55 (hS3.1.1 60 _ rfl) ⟨by decide, rfl⟩ rfl (Nat.le_of_ble_eq_true rfl) ⟨(Nat.le_of_ble_eq_true rfl), (Nat.le_of_ble_eq_true rfl)⟩ ⟨by omega, by omega⟩ rfl (cs_use (cs_Mo_thrown (fun M4 hS4 => ?_)) hS3)
      refine jj_iload 1 dd_La_law_233 rfl ?_
      refine jj_icmp_eq (tgt := 240) dd_La_law_235 (by decide) (fun _ => ?_) (fun h => absurd hw h)
      refine jj_iload 1 dd_La_law_240 rfl ?_
      refine jj_if_ne (tgt := 257) dd_La_law_242 (by decide) (fun _ => ?_) (fun h0 => ?_)
      · skip
        refine jj_goto (tgt := 868) dd_La_law_257 (by decide) ?_
        refine jj_sub [2, 3, 4, 5, 6] rfl ?_
        exact nxt _ _ hS4 hI1
      · skip
        obtain ⟨hz1, hz2⟩ := hz h0
        refine jj_aload_n 3 dd_La_law_245 rfl ?_
        refine jj_iconst (v := 0) dd_La_law_246 rfl ?_
        refine jj_lald dd_La_law_247 (hS4.1.1 100 _ rfl) (vp_in_nI (n := 0) (by decide) (by decide)) ?_
        refine jj_iload 0 dd_La_law_248 rfl ?_
        refine jj_i2l dd_La_law_250 ?_
        refine jj_lcmp dd_La_law_251 ?_
        refine jj_if_eq (tgt := 257) dd_La_law_252 (by decide) (fun _ => ?_) (fun h => absurd ?_ h)
        · skip
          refine jj_goto (tgt := 868) dd_La_law_257 (by decide) ?_
          refine jj_sub [2, 3, 4, 5, 6] rfl ?_
          exact nxt _ _ hS4 hI1
        · rw [lg_cmp_eq]
          show (mm_i M4 (g 100) 0).toInt64 = _
          rw [rp_row hS4]
          show (F1 100 0).toInt64 = _
          rw [hz2, hz1]
  · skip
    refine jj_aload_n 3 dd_La_law_192 rfl ?_
    refine jj_aload_n 4 dd_La_law_193 rfl ?_
    refine jj_iload 0 dd_La_law_194 rfl ?_
    refine jj_iconst (v := 1) dd_La_law_196 rfl ?_
    refine jj_iadd dd_La_law_197 ?_
    refine jj_ti (x' := nI (1 + 4 * n + 1)) (nI_add (1 + 4 * n) 1) ?_
    refine jj_sald hG dd_La_law_198 (vp_in_nI (by omega) (by omega)) (1 + 4 * n + 1) (nI_clamp (by omega)) ?_
    refine jj_aload_n 4 dd_La_law_199 rfl ?_
    refine jj_iload 0 dd_La_law_200 rfl ?_
    refine jj_iconst (v := 2) dd_La_law_202 rfl ?_
    refine jj_iadd dd_La_law_203 ?_
    refine jj_ti (x' := nI (1 + 4 * n + 2)) (nI_add (1 + 4 * n) 2) ?_
    refine jj_sald hG dd_La_law_204 (vp_in_nI (by omega) (by omega)) (1 + 4 * n + 2) (nI_clamp (by omega)) ?_
    refine jj_aload_n 1 dd_La_law_205 rfl ?_
    refine jj_callW (n := 4) [.ref (g 0), .int (xs (1 + 4 * n + 1)), .int (xs (1 + 4 * n + 2)), .ref (g 100)] [] (4 * k) (22 * k) dd_La_law_206 cww_La_get ck_La ⟨by decide, by decide, by decide +kernel⟩ lk_La_59 ci_La_59 rfl (Nat.le_of_ble_eq_true rfl) ⟨(Nat.le_of_ble_eq_true rfl), (Nat.le_of_ble_eq_true rfl)⟩ ⟨by omega, by omega⟩ rfl (cw_La_get0 hfl hS (Or.inl hc0) ?_)
    show jj_ _ _ _ _ _ _ _ _ _ _ _ 209 _ [.int 1] M
    refine jj_istore (lv' := [(5, .int 1), (4, .int (nI (1 + 4 * n))), (3, .ref (g 100)), (2, .ref (g 60)), (1, .ref (g 0)), (0, .ref b)]) dd_La_law_209 (Nat.le_of_ble_eq_true rfl) rfl ?_
    refine jj_aload_n 3 dd_La_law_211 rfl ?_
    refine jj_aload_n 5 dd_La_law_212 rfl ?_
    refine jj_iload 1 dd_La_law_213 rfl ?_
    refine jj_iconst (v := 1) dd_La_law_215 rfl ?_
    refine jj_iadd dd_La_law_216 ?_
    refine jj_ti (x' := nI (1 + 4 * n + 1)) (nI_add (1 + 4 * n) 1) ?_
    refine jj_sald hG dd_La_law_217 (vp_in_nI (by omega) (by omega)) (1 + 4 * n + 1) (nI_clamp (by omega)) ?_
    refine jj_aload_n 5 dd_La_law_218 rfl ?_
    refine jj_iload 1 dd_La_law_219 rfl ?_
    refine jj_iconst (v := 2) dd_La_law_221 rfl ?_
    refine jj_iadd dd_La_law_222 ?_
    refine jj_ti (x' := nI (1 + 4 * n + 2)) (nI_add (1 + 4 * n) 2) ?_
    refine jj_sald hG dd_La_law_223 (vp_in_nI (by omega) (by omega)) (1 + 4 * n + 2) (nI_clamp (by omega)) ?_
    refine jj_callV (ci := 7) [_, _] [] (4 * k) (22 * k) dd_La_law_224 cs_La_62 ci_La_62 (hS.1.1 60 _ rfl) ⟨by decide, rfl⟩ rfl (Nat.le_of_ble_eq_true rfl) ⟨(Nat.le_of_ble_eq_true rfl), (Nat.le_of_ble_eq_true rfl)⟩ ⟨by omega, by omega⟩ rfl (cs_use (cs_Mo_get0 rfl (Or.inl (vo_ (n := 3) (by decide) hc0)) (fun M3 hS3 => ?_)) hS)
    have hI1 := inv_err (x := 1) hI
    generalize hF1 : uf_ (uf_ S.1 60 1 0) 60 1 1 = F1 at hS3 hI1
    have hw : F1 60 1 = 1 := by rw [← hF1]; exact uf_s _ _ _ _
    have hz : (1 : Int32) = 0 → (0 : Int32) = 0 ∧ F1 100 0 = 0 := fun h => absurd h (by decide)
    refine jj_istore (lv' := [(6, .int 0), (5, .int 1), (4, .int (nI (1 + 4 * n))), (3, .ref (g 100)), (2, .ref (g 60)), (1, .ref (g 0)), (0, .ref b)]) dd_La_law_227 (Nat.le_of_ble_eq_true rfl) rfl ?_
    refine jj_aload_n 4 dd_La_law_229 rfl ?_
    refine jj_callV (ci := 7) [] [] (4 * k) (22 * k) dd_La_law_230 cs_La_55 ci_La_55 (hS3.1.1 60 _ rfl) ⟨by decide, rfl⟩ rfl (Nat.le_of_ble_eq_true rfl) ⟨(Nat.le_of_ble_eq_true rfl), (Nat.le_of_ble_eq_true rfl)⟩ ⟨by omega, by omega⟩ rfl (cs_use (cs_Mo_thrown (fun M4 hS4 => ?_)) hS3)
    refine jj_iload 1 dd_La_law_233 rfl ?_
    refine jj_icmp_eq (tgt := 240) dd_La_law_235 (by decide) (fun _ => ?_) (fun h => absurd hw h)
    refine jj_iload 1 dd_La_law_240 rfl ?_
    refine jj_if_ne (tgt := 257) dd_La_law_242 (by decide) (fun _ => ?_) (fun h0 => ?_)
    · skip
      refine jj_goto (tgt := 868) dd_La_law_257 (by decide) ?_
      refine jj_sub [2, 3, 4, 5, 6] rfl ?_
      exact nxt _ _ hS4 hI1
    · skip
      obtain ⟨hz1, hz2⟩ := hz h0
      refine jj_aload_n 3 dd_La_law_245 rfl ?_
      refine jj_iconst (v := 0) dd_La_law_246 rfl ?_
      refine jj_lald dd_La_law_247 (hS4.1.1 100 _ rfl) (vp_in_nI (n := 0) (by decide) (by decide)) ?_
      refine jj_iload 0 dd_La_law_248 rfl ?_
      refine jj_i2l dd_La_law_250 ?_
      refine jj_lcmp dd_La_law_251 ?_
      refine jj_if_eq (tgt := 257) dd_La_law_252 (by decide) (fun _ => ?_) (fun h => absurd ?_ h)
      · skip
        refine jj_goto (tgt := 868) dd_La_law_257 (by decide) ?_
        refine jj_sub [2, 3, 4, 5, 6] rfl ?_
        exact nxt _ _ hS4 hI1
      · rw [lg_cmp_eq]
        show (mm_i M4 (g 100) 0).toInt64 = _
        rw [rp_row hS4]
        show (F1 100 0).toInt64 = _
        rw [hz2, hz1]
set_option maxRecDepth 20000 in
theorem lc_set {l : Launch} (hfl : l.flags = pinnedFlags ++ [noTraceFlag]) {G : mm_G} {A : Nat → Prop} {b L n k : Nat} {xs : Nat → Int32} {g : Nat → Nat} {S : ss_} {M : mm_M} (hG : sk_ G b L xs) (hn : n < 512) (hL : 4 + 4 * n < L) (hL2 : L ≤ 2049) (hS : rp_ g M S) (hI : inv_ n S) (nxt : ∀ S1 M1, rp_ g M1 S1 → inv_ (n + 1) S1 → jj_ l yy_La_law code 7 (some .boolean) G room_1 A (mm_ret (fun v _ => v = some (.int 1))) (4 * k) (22 * k) 868 [(4, .int (nI (1 + 4 * n))), (3, .ref (g 100)), (2, .ref (g 60)), (1, .ref (g 0)), (0, .ref b)] [] M1) : jj_ l yy_La_law code 7 (some .boolean) G room_1 A (mm_ret (fun v _ => v = some (.int 1))) (4 * (k + 1)) (22 * (k + 1)) 260 [(4, .int (nI (1 + 4 * n))), (3, .ref (g 100)), (2, .ref (g 60)), (1, .ref (g 0)), (0, .ref b)] [] M := by
  by_cases hc0 : vp_in (xs (1 + 4 * n + 1)) 4
  · by_cases hi0 : vp_in (xs (1 + 4 * n + 2)) 12
    · obtain ⟨c, hc, ec⟩ := xs_c (by decide) hc0
      obtain ⟨i, hi, ei⟩ := xs_c (by decide) hi0
      refine jj_aload_n 3 dd_La_law_260 rfl ?_
      refine jj_aload_n 4 dd_La_law_261 rfl ?_
      refine jj_iload 0 dd_La_law_262 rfl ?_
      refine jj_iconst (v := 1) dd_La_law_264 rfl ?_
      refine jj_iadd dd_La_law_265 ?_
      refine jj_ti (x' := nI (1 + 4 * n + 1)) (nI_add (1 + 4 * n) 1) ?_
      refine jj_sald hG dd_La_law_266 (vp_in_nI (by omega) (by omega)) (1 + 4 * n + 1) (nI_clamp (by omega)) ?_
      refine jj_ti (x' := nI c) ec ?_
      refine jj_aload_n 4 dd_La_law_267 rfl ?_
      refine jj_iload 0 dd_La_law_268 rfl ?_
      refine jj_iconst (v := 2) dd_La_law_270 rfl ?_
      refine jj_iadd dd_La_law_271 ?_
      refine jj_ti (x' := nI (1 + 4 * n + 2)) (nI_add (1 + 4 * n) 2) ?_
      refine jj_sald hG dd_La_law_272 (vp_in_nI (by omega) (by omega)) (1 + 4 * n + 2) (nI_clamp (by omega)) ?_
      refine jj_ti (x' := nI i) ei ?_
      refine jj_aload_n 4 dd_La_law_273 rfl ?_
      refine jj_iload 0 dd_La_law_274 rfl ?_
      refine jj_iconst (v := 3) dd_La_law_276 rfl ?_
      refine jj_iadd dd_La_law_277 ?_
      refine jj_ti (x' := nI (1 + 4 * n + 3)) (nI_add (1 + 4 * n) 3) ?_
      refine jj_sald hG dd_La_law_278 (vp_in_nI (by omega) (by omega)) (1 + 4 * n + 3) (nI_clamp (by omega)) ?_
      refine jj_callW (n := 4) [.ref (g 0), .int (nI c), .int (nI i), .int (xs (1 + 4 * n + 3))] [] (4 * k) (22 * k) dd_La_law_279 cww_La_set ck_La ⟨by decide, by decide, by decide +kernel⟩ lk_La_63 ci_La_63 rfl (Nat.le_of_ble_eq_true rfl) ⟨(Nat.le_of_ble_eq_true rfl), (Nat.le_of_ble_eq_true rfl)⟩ ⟨by omega, by omega⟩ rfl (cw_La_set hfl hS hc hi ?_)
      refine dtv_mono dt_se (dtv_and dt_se (top_ dt_se (op_se hc hi) (by omega) hI) se_e) (fun e S1 hx => ⟨hx.2, fun M1 hS1 => ?_⟩)
      obtain ⟨⟨_, ht⟩, _⟩ := hx
      have cont : ∀ (Fb : Nat → Nat → Int32) (M2 : mm_M) (kv : Int32), rp_ g M2 (Fb, S1.2) → (∀ n j, n < 91 → Fb n j = S1.1 n j) → (∀ r' w, mt_ cdn_ e 0 r' w → w = kv) → jj_ l yy_La_law code 7 (some .boolean) G room_1 A (mm_ret (fun v _ => v = some (.int 1))) (4 * k) (22 * k) 282 [(4, .int (nI (1 + 4 * n))), (3, .ref (g 100)), (2, .ref (g 60)), (1, .ref (g 0)), (0, .ref b)] [.int kv] M2 := by
        intro Fb M2 kv hS2 hFb hkv
        obtain ⟨r', F1, ev, hm, hrow, hI1, T, hsim⟩ := ht Fb hFb
        have hw := hkv r' (F1 60 1) hm
        refine jj_istore (lv' := [(5, .int kv), (4, .int (nI (1 + 4 * n))), (3, .ref (g 100)), (2, .ref (g 60)), (1, .ref (g 0)), (0, .ref b)]) dd_La_law_282 (Nat.le_of_ble_eq_true rfl) rfl ?_
        refine jj_aload_n 3 dd_La_law_284 rfl ?_
        refine jj_aload_n 5 dd_La_law_285 rfl ?_
        refine jj_iload 1 dd_La_law_286 rfl ?_
        refine jj_iconst (v := 1) dd_La_law_288 rfl ?_
        refine jj_iadd dd_La_law_289 ?_
        refine jj_ti (x' := nI (1 + 4 * n + 1)) (nI_add (1 + 4 * n) 1) ?_
        refine jj_sald hG dd_La_law_290 (vp_in_nI (by omega) (by omega)) (1 + 4 * n + 1) (nI_clamp (by omega)) ?_
        refine jj_ti (x' := nI c) ec ?_
        refine jj_aload_n 5 dd_La_law_291 rfl ?_
        refine jj_iload 1 dd_La_law_292 rfl ?_
        refine jj_iconst (v := 2) dd_La_law_294 rfl ?_
        refine jj_iadd dd_La_law_295 ?_
        refine jj_ti (x' := nI (1 + 4 * n + 2)) (nI_add (1 + 4 * n) 2) ?_
        refine jj_sald hG dd_La_law_296 (vp_in_nI (by omega) (by omega)) (1 + 4 * n + 2) (nI_clamp (by omega)) ?_
        refine jj_ti (x' := nI i) ei ?_
        refine jj_aload_n 5 dd_La_law_297 rfl ?_
        refine jj_iload 1 dd_La_law_298 rfl ?_
        refine jj_iconst (v := 3) dd_La_law_300 rfl ?_
        refine jj_iadd dd_La_law_301 ?_
        refine jj_ti (x' := nI (1 + 4 * n + 3)) (nI_add (1 + 4 * n) 3) ?_
        refine jj_sald hG dd_La_law_302 (vp_in_nI (by omega) (by omega)) (1 + 4 * n + 3) (nI_clamp (by omega)) ?_
        refine jj_callV (ci := 7) [_, _, _] [] (4 * k) (22 * k) dd_La_law_303 cs_La_66 ci_La_66 (hS2.1.1 60 _ rfl) ⟨by decide, rfl⟩ rfl (Nat.le_of_ble_eq_true rfl) ⟨(Nat.le_of_ble_eq_true rfl), (Nat.le_of_ble_eq_true rfl)⟩ ⟨by omega, by omega⟩ rfl (cs_use (cs_Mo_set rfl hc hi ?_) hS2)
        have h9 := ev (fun _ F => ∀ M', rp_ g M' (F, S1.2) → jj_ l yy_La_law code 7 (some .boolean) G room_1 A (mm_ret (fun v _ => v = some (.int 1))) (4 * k) (22 * k) 306 [(5, .int kv), (4, .int (nI (1 + 4 * n))), (3, .ref (g 100)), (2, .ref (g 60)), (1, .ref (g 0)), (0, .ref b)] [] M') (fun M3 hS3 => ?_)
        · exact h9
        · skip
          refine jj_aload_n 3 dd_La_law_306 rfl ?_
          refine jj_callV (ci := 7) [] [] (4 * k) (22 * k) dd_La_law_307 cs_La_55 ci_La_55 (hS3.1.1 60 _ rfl) ⟨by decide, rfl⟩ rfl (Nat.le_of_ble_eq_true rfl) ⟨(Nat.le_of_ble_eq_true rfl), (Nat.le_of_ble_eq_true rfl)⟩ ⟨by omega, by omega⟩ rfl (cs_use (cs_Mo_thrown (fun M4 hS4 => ?_)) hS3)
          refine jj_iload 0 dd_La_law_310 rfl ?_
          refine jj_icmp_eq (tgt := 317) dd_La_law_312 (by decide) (fun _ => ?_) (fun h => absurd hw h)
          refine jj_goto (tgt := 868) dd_La_law_317 (by decide) ?_
          refine jj_sub [1, 2, 3, 4, 5] rfl ?_
          exact nxt _ _ hS4 hI1
      refine ⟨fun h0 => ?_, fun h0 => ?_⟩
      · refine cont S1.1 _ 0 hS1 (fun _ _ _ => rfl) (fun r' w hm => ?_)
        rcases hm with ⟨_, a, b⟩ | ⟨a, _⟩
        · exact a
        · exact absurd h0 a
      · refine cont S1.1 _ (cdn_ e) hS1 (fun _ _ _ => rfl) (fun r' w hm => ?_)
        rcases hm with ⟨a, _⟩ | ⟨a, b, c⟩
        · exact absurd a h0
        · exact c
    · skip
      refine jj_aload_n 3 dd_La_law_260 rfl ?_
      refine jj_aload_n 4 dd_La_law_261 rfl ?_
      refine jj_iload 0 dd_La_law_262 rfl ?_
      refine jj_iconst (v := 1) dd_La_law_264 rfl ?_
      refine jj_iadd dd_La_law_265 ?_
      refine jj_ti (x' := nI (1 + 4 * n + 1)) (nI_add (1 + 4 * n) 1) ?_
      refine jj_sald hG dd_La_law_266 (vp_in_nI (by omega) (by omega)) (1 + 4 * n + 1) (nI_clamp (by omega)) ?_
      refine jj_aload_n 4 dd_La_law_267 rfl ?_
      refine jj_iload 0 dd_La_law_268 rfl ?_
      refine jj_iconst (v := 2) dd_La_law_270 rfl ?_
      refine jj_iadd dd_La_law_271 ?_
      refine jj_ti (x' := nI (1 + 4 * n + 2)) (nI_add (1 + 4 * n) 2) ?_
      refine jj_sald hG dd_La_law_272 (vp_in_nI (by omega) (by omega)) (1 + 4 * n + 2) (nI_clamp (by omega)) ?_
      refine jj_aload_n 4 dd_La_law_273 rfl ?_
      refine jj_iload 0 dd_La_law_274 rfl ?_
      refine jj_iconst (v := 3) dd_La_law_276 rfl ?_
      refine jj_iadd dd_La_law_277 ?_
      refine jj_ti (x' := nI (1 + 4 * n + 3)) (nI_add (1 + 4 * n) 3) ?_
      refine jj_sald hG dd_La_law_278 (vp_in_nI (by omega) (by omega)) (1 + 4 * n + 3) (nI_clamp (by omega)) ?_
      refine jj_callW (n := 4) [.ref (g 0), .int (xs (1 + 4 * n + 1)), .int (xs (1 + 4 * n + 2)), .int (xs (1 + 4 * n + 3))] [] (4 * k) (22 * k) dd_La_law_279 cww_La_set ck_La ⟨by decide, by decide, by decide +kernel⟩ lk_La_63 ci_La_63 rfl (Nat.le_of_ble_eq_true rfl) ⟨(Nat.le_of_ble_eq_true rfl), (Nat.le_of_ble_eq_true rfl)⟩ ⟨by omega, by omega⟩ rfl (cw_La_set0 hfl hS (Or.inr hi0) ?_)
      show jj_ _ _ _ _ _ _ _ _ _ _ _ 282 _ [.int 1] M
      refine jj_istore (lv' := [(5, .int 1), (4, .int (nI (1 + 4 * n))), (3, .ref (g 100)), (2, .ref (g 60)), (1, .ref (g 0)), (0, .ref b)]) dd_La_law_282 (Nat.le_of_ble_eq_true rfl) rfl ?_
      refine jj_aload_n 3 dd_La_law_284 rfl ?_
      refine jj_aload_n 5 dd_La_law_285 rfl ?_
      refine jj_iload 1 dd_La_law_286 rfl ?_
      refine jj_iconst (v := 1) dd_La_law_288 rfl ?_
      refine jj_iadd dd_La_law_289 ?_
      refine jj_ti (x' := nI (1 + 4 * n + 1)) (nI_add (1 + 4 * n) 1) ?_
      refine jj_sald hG dd_La_law_290 (vp_in_nI (by omega) (by omega)) (1 + 4 * n + 1) (nI_clamp (by omega)) ?_
      refine jj_aload_n 5 dd_La_law_291 rfl ?_
      refine jj_iload 1 dd_La_law_292 rfl ?_
      refine jj_iconst (v := 2) dd_La_law_294 rfl ?_
      refine jj_iadd dd_La_law_295 ?_
      refine jj_ti (x' := nI (1 + 4 * n + 2)) (nI_add (1 + 4 * n) 2) ?_
      refine jj_sald hG dd_La_law_296 (vp_in_nI (by omega) (by omega)) (1 + 4 * n + 2) (nI_clamp (by omega)) ?_
      refine jj_aload_n 5 dd_La_law_297 rfl ?_
      refine jj_iload 1 dd_La_law_298 rfl ?_
      refine jj_iconst (v := 3) dd_La_law_300 rfl ?_
      refine jj_iadd dd_La_law_301 ?_
      refine jj_ti (x' := nI (1 + 4 * n + 3)) (nI_add (1 + 4 * n) 3) ?_
      refine jj_sald hG dd_La_law_302 (vp_in_nI (by omega) (by omega)) (1 + 4 * n + 3) (nI_clamp (by omega)) ?_
      refine jj_callV (ci := 7) [_, _, _] [] (4 * k) (22 * k) dd_La_law_303 cs_La_66 ci_La_66 (hS.1.1 60 _ rfl) ⟨by decide, rfl⟩ rfl (Nat.le_of_ble_eq_true rfl) ⟨(Nat.le_of_ble_eq_true rfl), (Nat.le_of_ble_eq_true rfl)⟩ ⟨by omega, by omega⟩ rfl (cs_use (cs_Mo_set0 rfl (Or.inr (vo_ (n := 11) (by decide) hi0)) (fun M3 hS3 => ?_)) hS)
      have hI1 := inv_err (x := 1) hI
      generalize hF1 : uf_ (uf_ S.1 60 1 0) 60 1 1 = F1 at hS3 hI1
      have hw : F1 60 1 = 1 := by rw [← hF1]; exact uf_s _ _ _ _
      refine jj_aload_n 3 dd_La_law_306 rfl ?_
      refine jj_callV (ci := 7) [] [] (4 * k) (22 * k) dd_La_law_307 cs_La_55 ci_La_55 (hS3.1.1 60 _ rfl) ⟨by decide, rfl⟩ rfl (Nat.le_of_ble_eq_true rfl) ⟨(Nat.le_of_ble_eq_true rfl), (Nat.le_of_ble_eq_true rfl)⟩ ⟨by omega, by omega⟩ rfl (cs_use (cs_Mo_thrown (fun M4 hS4 => ?_)) hS3)
      refine jj_iload 0 dd_La_law_310 rfl ?_
      refine jj_icmp_eq (tgt := 317) dd_La_law_312 (by decide) (fun _ => ?_) (fun h => absurd hw h)
      refine jj_goto (tgt := 868) dd_La_law_317 (by decide) ?_
      refine jj_sub [1, 2, 3, 4, 5] rfl ?_
      exact nxt _ _ hS4 hI1
  · skip
    refine jj_aload_n 3 dd_La_law_260 rfl ?_
    refine jj_aload_n 4 dd_La_law_261 rfl ?_
    refine jj_iload 0 dd_La_law_262 rfl ?_
    refine jj_iconst (v := 1) dd_La_law_264 rfl ?_
    refine jj_iadd dd_La_law_265 ?_
    refine jj_ti (x' := nI (1 + 4 * n + 1)) (nI_add (1 + 4 * n) 1) ?_
    refine jj_sald hG dd_La_law_266 (vp_in_nI (by omega) (by omega)) (1 + 4 * n + 1) (nI_clamp (by omega)) ?_
    refine jj_aload_n 4 dd_La_law_267 rfl ?_
    refine jj_iload 0 dd_La_law_268 rfl ?_
    refine jj_iconst (v := 2) dd_La_law_270 rfl ?_
    refine jj_iadd dd_La_law_271 ?_
    refine jj_ti (x' := nI (1 + 4 * n + 2)) (nI_add (1 + 4 * n) 2) ?_
    refine jj_sald hG dd_La_law_272 (vp_in_nI (by omega) (by omega)) (1 + 4 * n + 2) (nI_clamp (by omega)) ?_
    refine jj_aload_n 4 dd_La_law_273 rfl ?_
    refine jj_iload 0 dd_La_law_274 rfl ?_
    refine jj_iconst (v := 3) dd_La_law_276 rfl ?_
    refine jj_iadd dd_La_law_277 ?_
    refine jj_ti (x' := nI (1 + 4 * n + 3)) (nI_add (1 + 4 * n) 3) ?_
    refine jj_sald hG dd_La_law_278 (vp_in_nI (by omega) (by omega)) (1 + 4 * n + 3) (nI_clamp (by omega)) ?_
    refine jj_callW (n := 4) [.ref (g 0), .int (xs (1 + 4 * n + 1)), .int (xs (1 + 4 * n + 2)), .int (xs (1 + 4 * n + 3))] [] (4 * k) (22 * k) dd_La_law_279 cww_La_set ck_La ⟨by decide, by decide, by decide +kernel⟩ lk_La_63 ci_La_63 rfl (Nat.le_of_ble_eq_true rfl) ⟨(Nat.le_of_ble_eq_true rfl), (Nat.le_of_ble_eq_true rfl)⟩ ⟨by omega, by omega⟩ rfl (cw_La_set0 hfl hS (Or.inl hc0) ?_)
    show jj_ _ _ _ _ _ _ _ _ _ _ _ 282 _ [.int 1] M
    refine jj_istore (lv' := [(5, .int 1), (4, .int (nI (1 + 4 * n))), (3, .ref (g 100)), (2, .ref (g 60)), (1, .ref (g 0)), (0, .ref b)]) dd_La_law_282 (Nat.le_of_ble_eq_true rfl) rfl ?_
    refine jj_aload_n 3 dd_La_law_284 rfl ?_
    refine jj_aload_n 5 dd_La_law_285 rfl ?_
    refine jj_iload 1 dd_La_law_286 rfl ?_
    refine jj_iconst (v := 1) dd_La_law_288 rfl ?_
    refine jj_iadd dd_La_law_289 ?_
    refine jj_ti (x' := nI (1 + 4 * n + 1)) (nI_add (1 + 4 * n) 1) ?_
    refine jj_sald hG dd_La_law_290 (vp_in_nI (by omega) (by omega)) (1 + 4 * n + 1) (nI_clamp (by omega)) ?_
    refine jj_aload_n 5 dd_La_law_291 rfl ?_
    refine jj_iload 1 dd_La_law_292 rfl ?_
    refine jj_iconst (v := 2) dd_La_law_294 rfl ?_
    refine jj_iadd dd_La_law_295 ?_
    refine jj_ti (x' := nI (1 + 4 * n + 2)) (nI_add (1 + 4 * n) 2) ?_
    refine jj_sald hG dd_La_law_296 (vp_in_nI (by omega) (by omega)) (1 + 4 * n + 2) (nI_clamp (by omega)) ?_
    refine jj_aload_n 5 dd_La_law_297 rfl ?_
    refine jj_iload 1 dd_La_law_298 rfl ?_
    refine jj_iconst (v := 3) dd_La_law_300 rfl ?_
    refine jj_iadd dd_La_law_301 ?_
    refine jj_ti (x' := nI (1 + 4 * n + 3)) (nI_add (1 + 4 * n) 3) ?_
    refine jj_sald hG dd_La_law_302 (vp_in_nI (by omega) (by omega)) (1 + 4 * n + 3) (nI_clamp (by omega)) ?_
    refine jj_callV (ci := 7) [_, _, _] [] (4 * k) (22 * k) dd_La_law_303 cs_La_66 ci_La_66 (hS.1.1 60 _ rfl) ⟨by decide, rfl⟩ rfl (Nat.le_of_ble_eq_true rfl) ⟨(Nat.le_of_ble_eq_true rfl), (Nat.le_of_ble_eq_true rfl)⟩ ⟨by omega, by omega⟩ rfl (cs_use (cs_Mo_set0 rfl (Or.inl (vo_ (n := 3) (by decide) hc0)) (fun M3 hS3 => ?_)) hS)
    have hI1 := inv_err (x := 1) hI
    generalize hF1 : uf_ (uf_ S.1 60 1 0) 60 1 1 = F1 at hS3 hI1
    have hw : F1 60 1 = 1 := by rw [← hF1]; exact uf_s _ _ _ _
    refine jj_aload_n 3 dd_La_law_306 rfl ?_
    refine jj_callV (ci := 7) [] [] (4 * k) (22 * k) dd_La_law_307 cs_La_55 ci_La_55 (hS3.1.1 60 _ rfl) ⟨by decide, rfl⟩ rfl (Nat.le_of_ble_eq_true rfl) ⟨(Nat.le_of_ble_eq_true rfl), (Nat.le_of_ble_eq_true rfl)⟩ ⟨by omega, by omega⟩ rfl (cs_use (cs_Mo_thrown (fun M4 hS4 => ?_)) hS3)
    refine jj_iload 0 dd_La_law_310 rfl ?_
    refine jj_icmp_eq (tgt := 317) dd_La_law_312 (by decide) (fun _ => ?_) (fun h => absurd hw h)
    refine jj_goto (tgt := 868) dd_La_law_317 (by decide) ?_
    refine jj_sub [1, 2, 3, 4, 5] rfl ?_
    exact nxt _ _ hS4 hI1
set_option maxRecDepth 20000 in
theorem lc_erase {l : Launch} (hfl : l.flags = pinnedFlags ++ [noTraceFlag]) {G : mm_G} {A : Nat → Prop} {b L n k : Nat} {xs : Nat → Int32} {g : Nat → Nat} {S : ss_} {M : mm_M} (hG : sk_ G b L xs) (hn : n < 512) (hL : 4 + 4 * n < L) (hL2 : L ≤ 2049) (hS : rp_ g M S) (hI : inv_ n S) (nxt : ∀ S1 M1, rp_ g M1 S1 → inv_ (n + 1) S1 → jj_ l yy_La_law code 7 (some .boolean) G room_1 A (mm_ret (fun v _ => v = some (.int 1))) (4 * k) (22 * k) 868 [(4, .int (nI (1 + 4 * n))), (3, .ref (g 100)), (2, .ref (g 60)), (1, .ref (g 0)), (0, .ref b)] [] M1) : jj_ l yy_La_law code 7 (some .boolean) G room_1 A (mm_ret (fun v _ => v = some (.int 1))) (4 * (k + 1)) (22 * (k + 1)) 320 [(4, .int (nI (1 + 4 * n))), (3, .ref (g 100)), (2, .ref (g 60)), (1, .ref (g 0)), (0, .ref b)] [] M := by
  by_cases hc0 : vp_in (xs (1 + 4 * n + 1)) 4
  · by_cases hi0 : vp_in (xs (1 + 4 * n + 2)) 12
    · obtain ⟨c, hc, ec⟩ := xs_c (by decide) hc0
      obtain ⟨i, hi, ei⟩ := xs_c (by decide) hi0
      refine jj_aload_n 3 dd_La_law_320 rfl ?_
      refine jj_aload_n 4 dd_La_law_321 rfl ?_
      refine jj_iload 0 dd_La_law_322 rfl ?_
      refine jj_iconst (v := 1) dd_La_law_324 rfl ?_
      refine jj_iadd dd_La_law_325 ?_
      refine jj_ti (x' := nI (1 + 4 * n + 1)) (nI_add (1 + 4 * n) 1) ?_
      refine jj_sald hG dd_La_law_326 (vp_in_nI (by omega) (by omega)) (1 + 4 * n + 1) (nI_clamp (by omega)) ?_
      refine jj_ti (x' := nI c) ec ?_
      refine jj_aload_n 4 dd_La_law_327 rfl ?_
      refine jj_iload 0 dd_La_law_328 rfl ?_
      refine jj_iconst (v := 2) dd_La_law_330 rfl ?_
      refine jj_iadd dd_La_law_331 ?_
      refine jj_ti (x' := nI (1 + 4 * n + 2)) (nI_add (1 + 4 * n) 2) ?_
      refine jj_sald hG dd_La_law_332 (vp_in_nI (by omega) (by omega)) (1 + 4 * n + 2) (nI_clamp (by omega)) ?_
      refine jj_ti (x' := nI i) ei ?_
      refine jj_callW (n := 3) [.ref (g 0), .int (nI c), .int (nI i)] [] (4 * k) (22 * k) dd_La_law_333 cww_La_erase ck_La ⟨by decide, by decide, by decide +kernel⟩ lk_La_67 ci_La_67 rfl (Nat.le_of_ble_eq_true rfl) ⟨(Nat.le_of_ble_eq_true rfl), (Nat.le_of_ble_eq_true rfl)⟩ ⟨by omega, by omega⟩ rfl (cw_La_erase hfl hS hc hi ?_)
      refine dtv_mono dt_er (dtv_and dt_er (top_ dt_er (op_er hc hi) (by omega) hI) er_e) (fun e S1 hx => ⟨hx.2, fun M1 hS1 => ?_⟩)
      obtain ⟨⟨_, ht⟩, _⟩ := hx
      have cont : ∀ (Fb : Nat → Nat → Int32) (M2 : mm_M) (kv : Int32), rp_ g M2 (Fb, S1.2) → (∀ n j, n < 91 → Fb n j = S1.1 n j) → (∀ r' w, mt_ cdn_ e 0 r' w → w = kv) → jj_ l yy_La_law code 7 (some .boolean) G room_1 A (mm_ret (fun v _ => v = some (.int 1))) (4 * k) (22 * k) 336 [(4, .int (nI (1 + 4 * n))), (3, .ref (g 100)), (2, .ref (g 60)), (1, .ref (g 0)), (0, .ref b)] [.int kv] M2 := by
        intro Fb M2 kv hS2 hFb hkv
        obtain ⟨r', F1, ev, hm, hrow, hI1, T, hsim⟩ := ht Fb hFb
        have hw := hkv r' (F1 60 1) hm
        refine jj_istore (lv' := [(5, .int kv), (4, .int (nI (1 + 4 * n))), (3, .ref (g 100)), (2, .ref (g 60)), (1, .ref (g 0)), (0, .ref b)]) dd_La_law_336 (Nat.le_of_ble_eq_true rfl) rfl ?_
        refine jj_aload_n 3 dd_La_law_338 rfl ?_
        refine jj_aload_n 5 dd_La_law_339 rfl ?_
        refine jj_iload 1 dd_La_law_340 rfl ?_
        refine jj_iconst (v := 1) dd_La_law_342 rfl ?_
        refine jj_iadd dd_La_law_343 ?_
        refine jj_ti (x' := nI (1 + 4 * n + 1)) (nI_add (1 + 4 * n) 1) ?_
        refine jj_sald hG dd_La_law_344 (vp_in_nI (by omega) (by omega)) (1 + 4 * n + 1) (nI_clamp (by omega)) ?_
        refine jj_ti (x' := nI c) ec ?_
        refine jj_aload_n 5 dd_La_law_345 rfl ?_
        refine jj_iload 1 dd_La_law_346 rfl ?_
        refine jj_iconst (v := 2) dd_La_law_348 rfl ?_
        refine jj_iadd dd_La_law_349 ?_
        refine jj_ti (x' := nI (1 + 4 * n + 2)) (nI_add (1 + 4 * n) 2) ?_
        refine jj_sald hG dd_La_law_350 (vp_in_nI (by omega) (by omega)) (1 + 4 * n + 2) (nI_clamp (by omega)) ?_
        refine jj_ti (x' := nI i) ei ?_
        refine jj_callV (ci := 7) [_, _] [] (4 * k) (22 * k) dd_La_law_351 cs_La_70 ci_La_70 (hS2.1.1 60 _ rfl) ⟨by decide, rfl⟩ rfl (Nat.le_of_ble_eq_true rfl) ⟨(Nat.le_of_ble_eq_true rfl), (Nat.le_of_ble_eq_true rfl)⟩ ⟨by omega, by omega⟩ rfl (cs_use (cs_Mo_erase (y := 0) rfl hc hi ?_) hS2)
        have h9 := ev (fun _ F => ∀ M', rp_ g M' (F, S1.2) → jj_ l yy_La_law code 7 (some .boolean) G room_1 A (mm_ret (fun v _ => v = some (.int 1))) (4 * k) (22 * k) 354 [(5, .int kv), (4, .int (nI (1 + 4 * n))), (3, .ref (g 100)), (2, .ref (g 60)), (1, .ref (g 0)), (0, .ref b)] [] M') (fun M3 hS3 => ?_)
        · exact h9
        · skip
          refine jj_aload_n 3 dd_La_law_354 rfl ?_
          refine jj_callV (ci := 7) [] [] (4 * k) (22 * k) dd_La_law_355 cs_La_55 ci_La_55 (hS3.1.1 60 _ rfl) ⟨by decide, rfl⟩ rfl (Nat.le_of_ble_eq_true rfl) ⟨(Nat.le_of_ble_eq_true rfl), (Nat.le_of_ble_eq_true rfl)⟩ ⟨by omega, by omega⟩ rfl (cs_use (cs_Mo_thrown (fun M4 hS4 => ?_)) hS3)
          refine jj_iload 0 dd_La_law_358 rfl ?_
          refine jj_icmp_eq (tgt := 365) dd_La_law_360 (by decide) (fun _ => ?_) (fun h => absurd hw h)
          refine jj_goto (tgt := 868) dd_La_law_365 (by decide) ?_
          refine jj_sub [1, 2, 3, 4, 5] rfl ?_
          exact nxt _ _ hS4 hI1
      refine ⟨fun h0 => ?_, fun h0 => ?_⟩
      · refine cont S1.1 _ 0 hS1 (fun _ _ _ => rfl) (fun r' w hm => ?_)
        rcases hm with ⟨_, a, b⟩ | ⟨a, _⟩
        · exact a
        · exact absurd h0 a
      · refine cont S1.1 _ (cdn_ e) hS1 (fun _ _ _ => rfl) (fun r' w hm => ?_)
        rcases hm with ⟨a, _⟩ | ⟨a, b, c⟩
        · exact absurd a h0
        · exact c
    · skip
      refine jj_aload_n 3 dd_La_law_320 rfl ?_
      refine jj_aload_n 4 dd_La_law_321 rfl ?_
      refine jj_iload 0 dd_La_law_322 rfl ?_
      refine jj_iconst (v := 1) dd_La_law_324 rfl ?_
      refine jj_iadd dd_La_law_325 ?_
      refine jj_ti (x' := nI (1 + 4 * n + 1)) (nI_add (1 + 4 * n) 1) ?_
      refine jj_sald hG dd_La_law_326 (vp_in_nI (by omega) (by omega)) (1 + 4 * n + 1) (nI_clamp (by omega)) ?_
      refine jj_aload_n 4 dd_La_law_327 rfl ?_
      refine jj_iload 0 dd_La_law_328 rfl ?_
      refine jj_iconst (v := 2) dd_La_law_330 rfl ?_
      refine jj_iadd dd_La_law_331 ?_
      refine jj_ti (x' := nI (1 + 4 * n + 2)) (nI_add (1 + 4 * n) 2) ?_
      refine jj_sald hG dd_La_law_332 (vp_in_nI (by omega) (by omega)) (1 + 4 * n + 2) (nI_clamp (by omega)) ?_
      refine jj_callW (n := 3) [.ref (g 0), .int (xs (1 + 4 * n + 1)), .int (xs (1 + 4 * n + 2))] [] (4 * k) (22 * k) dd_La_law_333 cww_La_erase ck_La ⟨by decide, by decide, by decide +kernel⟩ lk_La_67 ci_La_67 rfl (Nat.le_of_ble_eq_true rfl) ⟨(Nat.le_of_ble_eq_true rfl), (Nat.le_of_ble_eq_true rfl)⟩ ⟨by omega, by omega⟩ rfl (cw_La_erase0 hfl hS (Or.inr hi0) ?_)
      show jj_ _ _ _ _ _ _ _ _ _ _ _ 336 _ [.int 1] M
      refine jj_istore (lv' := [(5, .int 1), (4, .int (nI (1 + 4 * n))), (3, .ref (g 100)), (2, .ref (g 60)), (1, .ref (g 0)), (0, .ref b)]) dd_La_law_336 (Nat.le_of_ble_eq_true rfl) rfl ?_
      refine jj_aload_n 3 dd_La_law_338 rfl ?_
      refine jj_aload_n 5 dd_La_law_339 rfl ?_
      refine jj_iload 1 dd_La_law_340 rfl ?_
      refine jj_iconst (v := 1) dd_La_law_342 rfl ?_
      refine jj_iadd dd_La_law_343 ?_
      refine jj_ti (x' := nI (1 + 4 * n + 1)) (nI_add (1 + 4 * n) 1) ?_
      refine jj_sald hG dd_La_law_344 (vp_in_nI (by omega) (by omega)) (1 + 4 * n + 1) (nI_clamp (by omega)) ?_
      refine jj_aload_n 5 dd_La_law_345 rfl ?_
      refine jj_iload 1 dd_La_law_346 rfl ?_
      refine jj_iconst (v := 2) dd_La_law_348 rfl ?_
      refine jj_iadd dd_La_law_349 ?_
      refine jj_ti (x' := nI (1 + 4 * n + 2)) (nI_add (1 + 4 * n) 2) ?_
      refine jj_sald hG dd_La_law_350 (vp_in_nI (by omega) (by omega)) (1 + 4 * n + 2) (nI_clamp (by omega)) ?_
      refine jj_callV (ci := 7) [_, _] [] (4 * k) (22 * k) dd_La_law_351 cs_La_70 ci_La_70 (hS.1.1 60 _ rfl) ⟨by decide, rfl⟩ rfl (Nat.le_of_ble_eq_true rfl) ⟨(Nat.le_of_ble_eq_true rfl), (Nat.le_of_ble_eq_true rfl)⟩ ⟨by omega, by omega⟩ rfl (cs_use (cs_Mo_erase0 (y := 0) rfl (Or.inr (vo_ (n := 11) (by decide) hi0)) (fun M3 hS3 => ?_)) hS)
      have hI1 := inv_err (x := 1) hI
      generalize hF1 : uf_ (uf_ S.1 60 1 0) 60 1 1 = F1 at hS3 hI1
      have hw : F1 60 1 = 1 := by rw [← hF1]; exact uf_s _ _ _ _
      refine jj_aload_n 3 dd_La_law_354 rfl ?_
      refine jj_callV (ci := 7) [] [] (4 * k) (22 * k) dd_La_law_355 cs_La_55 ci_La_55 (hS3.1.1 60 _ rfl) ⟨by decide, rfl⟩ rfl (Nat.le_of_ble_eq_true rfl) ⟨(Nat.le_of_ble_eq_true rfl), (Nat.le_of_ble_eq_true rfl)⟩ ⟨by omega, by omega⟩ rfl (cs_use (cs_Mo_thrown (fun M4 hS4 => ?_)) hS3)
      refine jj_iload 0 dd_La_law_358 rfl ?_
      refine jj_icmp_eq (tgt := 365) dd_La_law_360 (by decide) (fun _ => ?_) (fun h => absurd hw h)
      refine jj_goto (tgt := 868) dd_La_law_365 (by decide) ?_
      refine jj_sub [1, 2, 3, 4, 5] rfl ?_
      exact nxt _ _ hS4 hI1
  · skip
    refine jj_aload_n 3 dd_La_law_320 rfl ?_
    refine jj_aload_n 4 dd_La_law_321 rfl ?_
    refine jj_iload 0 dd_La_law_322 rfl ?_
    refine jj_iconst (v := 1) dd_La_law_324 rfl ?_
    refine jj_iadd dd_La_law_325 ?_
    refine jj_ti (x' := nI (1 + 4 * n + 1)) (nI_add (1 + 4 * n) 1) ?_
    refine jj_sald hG dd_La_law_326 (vp_in_nI (by omega) (by omega)) (1 + 4 * n + 1) (nI_clamp (by omega)) ?_
    refine jj_aload_n 4 dd_La_law_327 rfl ?_
    refine jj_iload 0 dd_La_law_328 rfl ?_
    refine jj_iconst (v := 2) dd_La_law_330 rfl ?_
    refine jj_iadd dd_La_law_331 ?_
    refine jj_ti (x' := nI (1 + 4 * n + 2)) (nI_add (1 + 4 * n) 2) ?_
    refine jj_sald hG dd_La_law_332 (vp_in_nI (by omega) (by omega)) (1 + 4 * n + 2) (nI_clamp (by omega)) ?_
    refine jj_callW (n := 3) [.ref (g 0), .int (xs (1 + 4 * n + 1)), .int (xs (1 + 4 * n + 2))] [] (4 * k) (22 * k) dd_La_law_333 cww_La_erase ck_La ⟨by decide, by decide, by decide +kernel⟩ lk_La_67 ci_La_67 rfl (Nat.le_of_ble_eq_true rfl) ⟨(Nat.le_of_ble_eq_true rfl), (Nat.le_of_ble_eq_true rfl)⟩ ⟨by omega, by omega⟩ rfl (cw_La_erase0 hfl hS (Or.inl hc0) ?_)
    show jj_ _ _ _ _ _ _ _ _ _ _ _ 336 _ [.int 1] M
    refine jj_istore (lv' := [(5, .int 1), (4, .int (nI (1 + 4 * n))), (3, .ref (g 100)), (2, .ref (g 60)), (1, .ref (g 0)), (0, .ref b)]) dd_La_law_336 (Nat.le_of_ble_eq_true rfl) rfl ?_
    refine jj_aload_n 3 dd_La_law_338 rfl ?_
    refine jj_aload_n 5 dd_La_law_339 rfl ?_
    refine jj_iload 1 dd_La_law_340 rfl ?_
    refine jj_iconst (v := 1) dd_La_law_342 rfl ?_
    refine jj_iadd dd_La_law_343 ?_
    refine jj_ti (x' := nI (1 + 4 * n + 1)) (nI_add (1 + 4 * n) 1) ?_
    refine jj_sald hG dd_La_law_344 (vp_in_nI (by omega) (by omega)) (1 + 4 * n + 1) (nI_clamp (by omega)) ?_
    refine jj_aload_n 5 dd_La_law_345 rfl ?_
    refine jj_iload 1 dd_La_law_346 rfl ?_
    refine jj_iconst (v := 2) dd_La_law_348 rfl ?_
    refine jj_iadd dd_La_law_349 ?_
    refine jj_ti (x' := nI (1 + 4 * n + 2)) (nI_add (1 + 4 * n) 2) ?_
    refine jj_sald hG dd_La_law_350 (vp_in_nI (by omega) (by omega)) (1 + 4 * n + 2) (nI_clamp (by omega)) ?_
    refine jj_callV (ci := 7) [_, _] [] (4 * k) (22 * k) dd_La_law_351 cs_La_70 ci_La_70 (hS.1.1 60 _ rfl) ⟨by decide, rfl⟩ rfl (Nat.le_of_ble_eq_true rfl) ⟨(Nat.le_of_ble_eq_true rfl), (Nat.le_of_ble_eq_true rfl)⟩ ⟨by omega, by omega⟩ rfl (cs_use (cs_Mo_erase0 (y := 0) rfl (Or.inl (vo_ (n := 3) (by decide) hc0)) (fun M3 hS3 => ?_)) hS)
    have hI1 := inv_err (x := 1) hI
    generalize hF1 : uf_ (uf_ S.1 60 1 0) 60 1 1 = F1 at hS3 hI1
    have hw : F1 60 1 = 1 := by rw [← hF1]; exact uf_s _ _ _ _
    refine jj_aload_n 3 dd_La_law_354 rfl ?_
    refine jj_callV (ci := 7) [] [] (4 * k) (22 * k) dd_La_law_355 cs_La_55 ci_La_55 (hS3.1.1 60 _ rfl) ⟨by decide, rfl⟩ rfl (Nat.le_of_ble_eq_true rfl) ⟨(Nat.le_of_ble_eq_true rfl), (Nat.le_of_ble_eq_true rfl)⟩ ⟨by omega, by omega⟩ rfl (cs_use (cs_Mo_thrown (fun M4 hS4 => ?_)) hS3)
    refine jj_iload 0 dd_La_law_358 rfl ?_
    refine jj_icmp_eq (tgt := 365) dd_La_law_360 (by decide) (fun _ => ?_) (fun h => absurd hw h)
    refine jj_goto (tgt := 868) dd_La_law_365 (by decide) ?_
    refine jj_sub [1, 2, 3, 4, 5] rfl ?_
    exact nxt _ _ hS4 hI1
set_option maxRecDepth 20000 in
theorem lc_step {l : Launch} (hfl : l.flags = pinnedFlags ++ [noTraceFlag]) {G : mm_G} {A : Nat → Prop} {b L n k : Nat} {xs : Nat → Int32} {g : Nat → Nat} {S : ss_} {M : mm_M} (hG : sk_ G b L xs) (hn : n < 512) (hL : 4 + 4 * n < L) (hL2 : L ≤ 2049) (hS : rp_ g M S) (hI : inv_ n S) (nxt : ∀ S1 M1, rp_ g M1 S1 → inv_ (n + 1) S1 → jj_ l yy_La_law code 7 (some .boolean) G room_1 A (mm_ret (fun v _ => v = some (.int 1))) (4 * k) (22 * k) 868 [(4, .int (nI (1 + 4 * n))), (3, .ref (g 100)), (2, .ref (g 60)), (1, .ref (g 0)), (0, .ref b)] [] M1) : jj_ l yy_La_law code 7 (some .boolean) G room_1 A (mm_ret (fun v _ => v = some (.int 1))) (4 * (k + 1)) (22 * (k + 1)) 368 [(4, .int (nI (1 + 4 * n))), (3, .ref (g 100)), (2, .ref (g 60)), (1, .ref (g 0)), (0, .ref b)] [] M := by
  by_cases hc0 : vp_in (xs (1 + 4 * n + 1)) 4
  · obtain ⟨c, hc, ec⟩ := xs_c (by decide) hc0
    refine jj_aload_n 3 dd_La_law_368 rfl ?_
    refine jj_aload_n 4 dd_La_law_369 rfl ?_
    refine jj_iload 0 dd_La_law_370 rfl ?_
    refine jj_iconst (v := 1) dd_La_law_372 rfl ?_
    refine jj_iadd dd_La_law_373 ?_
    refine jj_ti (x' := nI (1 + 4 * n + 1)) (nI_add (1 + 4 * n) 1) ?_
    refine jj_sald hG dd_La_law_374 (vp_in_nI (by omega) (by omega)) (1 + 4 * n + 1) (nI_clamp (by omega)) ?_
    refine jj_ti (x' := nI c) ec ?_
    refine jj_aload_n 1 dd_La_law_375 rfl ?_
    refine jj_callW (n := 3) [.ref (g 0), .int (nI c), .ref (g 100)] [] (4 * k) (22 * k) dd_La_law_376 cww_La_step ck_La ⟨by decide, by decide, by decide +kernel⟩ lk_La_71 ci_La_71 rfl (Nat.le_of_ble_eq_true rfl) ⟨(Nat.le_of_ble_eq_true rfl), (Nat.le_of_ble_eq_true rfl)⟩ ⟨by omega, by omega⟩ rfl (cw_La_step hfl hS hc (inv_ci hn hI) ?_)
    refine dt3_mono dt_st (dt3_and dt_st (top_ dt_st (op_st hc) (by omega) hI) st_e) (fun e r S1 hx => ⟨hx.2, fun M1 hS1 => ?_⟩)
    obtain ⟨⟨_, ht⟩, _⟩ := hx
    have cont : ∀ (Fb : Nat → Nat → Int32) (M2 : mm_M) (kv : Int32), rp_ g M2 (Fb, S1.2) → (∀ n j, n < 91 → Fb n j = S1.1 n j) → (∀ r' w, mt_ cds_ e r r' w → w = kv ∧ (kv = 0 → r = r' ∧ Fb 100 0 = r)) → jj_ l yy_La_law code 7 (some .boolean) G room_1 A (mm_ret (fun v _ => v = some (.int 1))) (4 * k) (22 * k) 379 [(4, .int (nI (1 + 4 * n))), (3, .ref (g 100)), (2, .ref (g 60)), (1, .ref (g 0)), (0, .ref b)] [.int kv] M2 := by
      intro Fb M2 kv hS2 hFb hkv
      obtain ⟨r', F1, ev, hm, hrow, hI1, T, hsim⟩ := ht Fb hFb
      obtain ⟨hw, hz0⟩ := hkv r' (F1 60 1) hm
      have hz : kv = 0 → r = r' ∧ F1 100 0 = r := fun h => ⟨(hz0 h).1, (hrow 100 0 (by omega)).trans (hz0 h).2⟩
      refine jj_istore (lv' := [(5, .int kv), (4, .int (nI (1 + 4 * n))), (3, .ref (g 100)), (2, .ref (g 60)), (1, .ref (g 0)), (0, .ref b)]) dd_La_law_379 (Nat.le_of_ble_eq_true rfl) rfl ?_
      refine jj_aload_n 3 dd_La_law_381 rfl ?_
      refine jj_aload_n 5 dd_La_law_382 rfl ?_
      refine jj_iload 1 dd_La_law_383 rfl ?_
      refine jj_iconst (v := 1) dd_La_law_385 rfl ?_
      refine jj_iadd dd_La_law_386 ?_
      refine jj_ti (x' := nI (1 + 4 * n + 1)) (nI_add (1 + 4 * n) 1) ?_
      refine jj_sald hG dd_La_law_387 (vp_in_nI (by omega) (by omega)) (1 + 4 * n + 1) (nI_clamp (by omega)) ?_
      refine jj_ti (x' := nI c) ec ?_
      by_cases h83 : uf_ Fb 60 1 0 83 c = 0
      · skip
        refine jj_callV (ci := 7) [_] [] (4 * k) (22 * k) dd_La_law_388 cs_La_73 ci_La_73 (hS2.1.1 60 _ rfl) ⟨by decide, rfl⟩ rfl (Nat.le_of_ble_eq_true rfl) ⟨(Nat.le_of_ble_eq_true rfl), (Nat.le_of_ble_eq_true rfl)⟩ ⟨by omega, by omega⟩ rfl (cs_use (cs_Mo_stepC rfl hc h83 ?_) hS2)
        have h9 := ev (fun r F => ∀ M', rp_ g M' (F, S1.2) → jj_ l yy_La_law code 7 (some .boolean) G room_1 A (mm_ret (fun v _ => v = some (.int 1))) (4 * k) (22 * k) 391 [(5, .int kv), (4, .int (nI (1 + 4 * n))), (3, .ref (g 100)), (2, .ref (g 60)), (1, .ref (g 0)), (0, .ref b)] [.int r] M') (fun M3 hS3 => ?_)
        · unfold stY_ at h9
          rw [if_pos h83] at h9
          exact h9
        · skip
          refine jj_istore (lv' := [(6, .int r'), (5, .int kv), (4, .int (nI (1 + 4 * n))), (3, .ref (g 100)), (2, .ref (g 60)), (1, .ref (g 0)), (0, .ref b)]) dd_La_law_391 (Nat.le_of_ble_eq_true rfl) rfl ?_
          refine jj_aload_n 4 dd_La_law_393 rfl ?_
          refine jj_callV (ci := 7) [] [] (4 * k) (22 * k) dd_La_law_394 cs_La_55 ci_La_55 (hS3.1.1 60 _ rfl) ⟨by decide, rfl⟩ rfl (Nat.le_of_ble_eq_true rfl) ⟨(Nat.le_of_ble_eq_true rfl), (Nat.le_of_ble_eq_true rfl)⟩ ⟨by omega, by omega⟩ rfl (cs_use (cs_Mo_thrown (fun M4 hS4 => ?_)) hS3)
          refine jj_iload 1 dd_La_law_397 rfl ?_
          refine jj_icmp_eq (tgt := 404) dd_La_law_399 (by decide) (fun _ => ?_) (fun h => absurd hw h)
          refine jj_iload 1 dd_La_law_404 rfl ?_
          refine jj_if_ne (tgt := 421) dd_La_law_406 (by decide) (fun _ => ?_) (fun h0 => ?_)
          · skip
            refine jj_goto (tgt := 868) dd_La_law_421 (by decide) ?_
            refine jj_sub [2, 3, 4, 5, 6] rfl ?_
            exact nxt _ _ hS4 hI1
          · skip
            obtain ⟨hz1, hz2⟩ := hz h0
            refine jj_aload_n 3 dd_La_law_409 rfl ?_
            refine jj_iconst (v := 0) dd_La_law_410 rfl ?_
            refine jj_lald dd_La_law_411 (hS4.1.1 100 _ rfl) (vp_in_nI (n := 0) (by decide) (by decide)) ?_
            refine jj_iload 0 dd_La_law_412 rfl ?_
            refine jj_i2l dd_La_law_414 ?_
            refine jj_lcmp dd_La_law_415 ?_
            refine jj_if_eq (tgt := 421) dd_La_law_416 (by decide) (fun _ => ?_) (fun h => absurd ?_ h)
            · skip
              refine jj_goto (tgt := 868) dd_La_law_421 (by decide) ?_
              refine jj_sub [2, 3, 4, 5, 6] rfl ?_
              exact nxt _ _ hS4 hI1
            · rw [lg_cmp_eq]
              show (mm_i M4 (g 100) 0).toInt64 = _
              rw [rp_row hS4]
              show (F1 100 0).toInt64 = _
              rw [hz2, hz1]
      · skip
        have h2 : ¬ S.1 (40 + c) 2 = 0 := fun h => by
          rcases (hsim.2.2.2.2.2.2.1 c hc).2 with ⟨_, e, _⟩ | ⟨e, _⟩
          · exact h83 e
          · rw [e] at h; exact absurd h (by decide)
        have hst := sim_st hsim hc h2
        have hok : ok_ (uf_ (uf_ Fb 60 1 0) 83 c 2) := hst.2.2.2.1
        have hr := hst.2.2.2.2.2.2.2.1
        have hr2 := hst.2.2.2.2.2.2.2.2
        have hnn : ¬ uf_ (uf_ Fb 60 1 0) 83 c 2 86 c = 0 → nx_ (uf_ (uf_ Fb 60 1 0) 83 c 2) c 1 < 12 := fun h86 => by
          have hX := sim_x1 hst hc (by show ¬ uf_ S.1 (40 + c) 3 1 (40 + c) 2 = 0; rw [uf_o _ _ _ _ _ _ (by omega)]; exact h2)
          refine (nx_fo hX (fun e10 => ?_)).1
          rcases hX.2.2.1.2.2 with ⟨_, e⟩ | ⟨e, _⟩
          · exact h86 e
          · rw [e] at e10; exact absurd e10 (by decide)
        refine jj_callV (ci := 7) [_] [] (4 * k) (22 * k) dd_La_law_388 cs_La_73 ci_La_73 (hS2.1.1 60 _ rfl) ⟨by decide, rfl⟩ rfl (Nat.le_of_ble_eq_true rfl) ⟨(Nat.le_of_ble_eq_true rfl), (Nat.le_of_ble_eq_true rfl)⟩ ⟨by omega, by omega⟩ rfl (cs_use (cs_Mo_step rfl rfl hc hok hnn hr (show rec_ (uf_ (uf_ Fb 60 1 0) 83 c 2) < 1538 by omega) ?_) hS2)
        show stY_ c (uf_ Fb 60 1 0) _
        generalize stY_ c (uf_ Fb 60 1 0) = WW at ev ⊢
        refine ev _ (fun M3 hS3 => ?_)
        refine jj_istore (lv' := [(6, .int r'), (5, .int kv), (4, .int (nI (1 + 4 * n))), (3, .ref (g 100)), (2, .ref (g 60)), (1, .ref (g 0)), (0, .ref b)]) dd_La_law_391 (Nat.le_of_ble_eq_true rfl) rfl ?_
        refine jj_aload_n 4 dd_La_law_393 rfl ?_
        refine jj_callV (ci := 7) [] [] (4 * k) (22 * k) dd_La_law_394 cs_La_55 ci_La_55 (hS3.1.1 60 _ rfl) ⟨by decide, rfl⟩ rfl (Nat.le_of_ble_eq_true rfl) ⟨(Nat.le_of_ble_eq_true rfl), (Nat.le_of_ble_eq_true rfl)⟩ ⟨by omega, by omega⟩ rfl (cs_use (cs_Mo_thrown (fun M4 hS4 => ?_)) hS3)
        refine jj_iload 1 dd_La_law_397 rfl ?_
        refine jj_icmp_eq (tgt := 404) dd_La_law_399 (by decide) (fun _ => ?_) (fun h => absurd hw h)
        refine jj_iload 1 dd_La_law_404 rfl ?_
        refine jj_if_ne (tgt := 421) dd_La_law_406 (by decide) (fun _ => ?_) (fun h0 => ?_)
        · skip
          refine jj_goto (tgt := 868) dd_La_law_421 (by decide) ?_
          refine jj_sub [2, 3, 4, 5, 6] rfl ?_
          exact nxt _ _ hS4 hI1
        · skip
          obtain ⟨hz1, hz2⟩ := hz h0
          refine jj_aload_n 3 dd_La_law_409 rfl ?_
          refine jj_iconst (v := 0) dd_La_law_410 rfl ?_
          refine jj_lald dd_La_law_411 (hS4.1.1 100 _ rfl) (vp_in_nI (n := 0) (by decide) (by decide)) ?_
          refine jj_iload 0 dd_La_law_412 rfl ?_
          refine jj_i2l dd_La_law_414 ?_
          refine jj_lcmp dd_La_law_415 ?_
          refine jj_if_eq (tgt := 421) dd_La_law_416 (by decide) (fun _ => ?_) (fun h => absurd ?_ h)
          · skip
            refine jj_goto (tgt := 868) dd_La_law_421 (by decide) ?_
            refine jj_sub [2, 3, 4, 5, 6] rfl ?_
            exact nxt _ _ hS4 hI1
          · rw [lg_cmp_eq]
            show (mm_i M4 (g 100) 0).toInt64 = _
            rw [rp_row hS4]
            show (F1 100 0).toInt64 = _
            rw [hz2, hz1]
    refine ⟨fun h0 => ?_, fun h0 => ?_⟩
    · refine cont (uf_ S1.1 100 0 r) _ 0 (rp_si (n := 100) hS1 rfl) (fun n j hn => uf_o _ _ _ _ _ _ (by omega)) (fun r' w hm => ?_)
      rcases hm with ⟨_, a, b⟩ | ⟨a, _⟩
      · exact ⟨a, fun _ => ⟨b, uf_s _ _ _ _⟩⟩
      · exact absurd h0 a
    · refine cont S1.1 _ (cds_ e) hS1 (fun _ _ _ => rfl) (fun r' w hm => ?_)
      rcases hm with ⟨a, _⟩ | ⟨a, b, c⟩
      · exact absurd a h0
      · exact ⟨c, fun h => absurd h (cds_z e a b)⟩
  · skip
    refine jj_aload_n 3 dd_La_law_368 rfl ?_
    refine jj_aload_n 4 dd_La_law_369 rfl ?_
    refine jj_iload 0 dd_La_law_370 rfl ?_
    refine jj_iconst (v := 1) dd_La_law_372 rfl ?_
    refine jj_iadd dd_La_law_373 ?_
    refine jj_ti (x' := nI (1 + 4 * n + 1)) (nI_add (1 + 4 * n) 1) ?_
    refine jj_sald hG dd_La_law_374 (vp_in_nI (by omega) (by omega)) (1 + 4 * n + 1) (nI_clamp (by omega)) ?_
    refine jj_aload_n 1 dd_La_law_375 rfl ?_
    refine jj_callW (n := 3) [.ref (g 0), .int (xs (1 + 4 * n + 1)), .ref (g 100)] [] (4 * k) (22 * k) dd_La_law_376 cww_La_step ck_La ⟨by decide, by decide, by decide +kernel⟩ lk_La_71 ci_La_71 rfl (Nat.le_of_ble_eq_true rfl) ⟨(Nat.le_of_ble_eq_true rfl), (Nat.le_of_ble_eq_true rfl)⟩ ⟨by omega, by omega⟩ rfl (cw_La_step0 hfl hS hc0 ?_)
    show jj_ _ _ _ _ _ _ _ _ _ _ _ 379 _ [.int 1] M
    refine jj_istore (lv' := [(5, .int 1), (4, .int (nI (1 + 4 * n))), (3, .ref (g 100)), (2, .ref (g 60)), (1, .ref (g 0)), (0, .ref b)]) dd_La_law_379 (Nat.le_of_ble_eq_true rfl) rfl ?_
    refine jj_aload_n 3 dd_La_law_381 rfl ?_
    refine jj_aload_n 5 dd_La_law_382 rfl ?_
    refine jj_iload 1 dd_La_law_383 rfl ?_
    refine jj_iconst (v := 1) dd_La_law_385 rfl ?_
    refine jj_iadd dd_La_law_386 ?_
    refine jj_ti (x' := nI (1 + 4 * n + 1)) (nI_add (1 + 4 * n) 1) ?_
    refine jj_sald hG dd_La_law_387 (vp_in_nI (by omega) (by omega)) (1 + 4 * n + 1) (nI_clamp (by omega)) ?_
    refine jj_callV (ci := 7) [_] [] (4 * k) (22 * k) dd_La_law_388 cs_La_73 ci_La_73 (hS.1.1 60 _ rfl) ⟨by decide, rfl⟩ rfl (Nat.le_of_ble_eq_true rfl) ⟨(Nat.le_of_ble_eq_true rfl), (Nat.le_of_ble_eq_true rfl)⟩ ⟨by omega, by omega⟩ rfl (cs_use (cs_Mo_step0 rfl (vo_ (n := 3) (by decide) hc0) (fun M3 hS3 => ?_)) hS)
    have hI1 := inv_err (x := 1) hI
    generalize hF1 : uf_ (uf_ S.1 60 1 0) 60 1 1 = F1 at hS3 hI1
    have hw : F1 60 1 = 1 := by rw [← hF1]; exact uf_s _ _ _ _
    have hz : (1 : Int32) = 0 → (0 : Int32) = 0 ∧ F1 100 0 = 0 := fun h => absurd h (by decide)
    refine jj_istore (lv' := [(6, .int 0), (5, .int 1), (4, .int (nI (1 + 4 * n))), (3, .ref (g 100)), (2, .ref (g 60)), (1, .ref (g 0)), (0, .ref b)]) dd_La_law_391 (Nat.le_of_ble_eq_true rfl) rfl ?_
    refine jj_aload_n 4 dd_La_law_393 rfl ?_
    refine jj_callV (ci := 7) [] [] (4 * k) (22 * k) dd_La_law_394 cs_La_55 ci_La_55 (hS3.1.1 60 _ rfl) ⟨by decide, rfl⟩ rfl (Nat.le_of_ble_eq_true rfl) ⟨(Nat.le_of_ble_eq_true rfl), (Nat.le_of_ble_eq_true rfl)⟩ ⟨by omega, by omega⟩ rfl (cs_use (cs_Mo_thrown (fun M4 hS4 => ?_)) hS3)
    refine jj_iload 1 dd_La_law_397 rfl ?_
    refine jj_icmp_eq (tgt := 404) dd_La_law_399 (by decide) (fun _ => ?_) (fun h => absurd hw h)
    refine jj_iload 1 dd_La_law_404 rfl ?_
    refine jj_if_ne (tgt := 421) dd_La_law_406 (by decide) (fun _ => ?_) (fun h0 => ?_)
    · skip
      refine jj_goto (tgt := 868) dd_La_law_421 (by decide) ?_
      refine jj_sub [2, 3, 4, 5, 6] rfl ?_
      exact nxt _ _ hS4 hI1
    · skip
      obtain ⟨hz1, hz2⟩ := hz h0
      refine jj_aload_n 3 dd_La_law_409 rfl ?_
      refine jj_iconst (v := 0) dd_La_law_410 rfl ?_
      refine jj_lald dd_La_law_411 (hS4.1.1 100 _ rfl) (vp_in_nI (n := 0) (by decide) (by decide)) ?_
      refine jj_iload 0 dd_La_law_412 rfl ?_
      refine jj_i2l dd_La_law_414 ?_
      refine jj_lcmp dd_La_law_415 ?_
      refine jj_if_eq (tgt := 421) dd_La_law_416 (by decide) (fun _ => ?_) (fun h => absurd ?_ h)
      · skip
        refine jj_goto (tgt := 868) dd_La_law_421 (by decide) ?_
        refine jj_sub [2, 3, 4, 5, 6] rfl ?_
        exact nxt _ _ hS4 hI1
      · rw [lg_cmp_eq]
        show (mm_i M4 (g 100) 0).toInt64 = _
        rw [rp_row hS4]
        show (F1 100 0).toInt64 = _
        rw [hz2, hz1]
set_option maxRecDepth 20000 in
theorem lc_clear {l : Launch} (hfl : l.flags = pinnedFlags ++ [noTraceFlag]) {G : mm_G} {A : Nat → Prop} {b L n k : Nat} {xs : Nat → Int32} {g : Nat → Nat} {S : ss_} {M : mm_M} (hG : sk_ G b L xs) (hn : n < 512) (hL : 4 + 4 * n < L) (hL2 : L ≤ 2049) (hS : rp_ g M S) (hI : inv_ n S) (nxt : ∀ S1 M1, rp_ g M1 S1 → inv_ (n + 1) S1 → jj_ l yy_La_law code 7 (some .boolean) G room_1 A (mm_ret (fun v _ => v = some (.int 1))) (4 * k) (22 * k) 868 [(4, .int (nI (1 + 4 * n))), (3, .ref (g 100)), (2, .ref (g 60)), (1, .ref (g 0)), (0, .ref b)] [] M1) : jj_ l yy_La_law code 7 (some .boolean) G room_1 A (mm_ret (fun v _ => v = some (.int 1))) (4 * (k + 1)) (22 * (k + 1)) 449 [(4, .int (nI (1 + 4 * n))), (3, .ref (g 100)), (2, .ref (g 60)), (1, .ref (g 0)), (0, .ref b)] [] M := by
  by_cases hi0 : vp_in (xs (1 + 4 * n + 1)) 12
  · obtain ⟨i, hi, ei⟩ := xs_c (by decide) hi0
    refine jj_aload_n 3 dd_La_law_449 rfl ?_
    refine jj_aload_n 4 dd_La_law_450 rfl ?_
    refine jj_iload 0 dd_La_law_451 rfl ?_
    refine jj_iconst (v := 1) dd_La_law_453 rfl ?_
    refine jj_iadd dd_La_law_454 ?_
    refine jj_ti (x' := nI (1 + 4 * n + 1)) (nI_add (1 + 4 * n) 1) ?_
    refine jj_sald hG dd_La_law_455 (vp_in_nI (by omega) (by omega)) (1 + 4 * n + 1) (nI_clamp (by omega)) ?_
    refine jj_ti (x' := nI i) ei ?_
    refine jj_aload_n 1 dd_La_law_456 rfl ?_
    refine jj_callW (n := 3) [.ref (g 0), .int (nI i), .ref (g 100)] [] (4 * k) (22 * k) dd_La_law_457 cww_La_clear ck_La ⟨by decide, by decide, by decide +kernel⟩ lk_La_79 ci_La_79 rfl (Nat.le_of_ble_eq_true rfl) ⟨(Nat.le_of_ble_eq_true rfl), (Nat.le_of_ble_eq_true rfl)⟩ ⟨by omega, by omega⟩ rfl (cw_La_clear hfl hS hi (inv_ci hn hI) ?_)
    refine dt3_mono dt_ce (dt3_and dt_ce (top_ dt_ce (op_ce hi) (by omega) hI) ce_e) (fun e r S1 hx => ⟨hx.2, fun M1 hS1 => ?_⟩)
    obtain ⟨⟨_, ht⟩, _⟩ := hx
    have cont : ∀ (Fb : Nat → Nat → Int32) (M2 : mm_M) (kv : Int32), rp_ g M2 (Fb, S1.2) → (∀ n j, n < 91 → Fb n j = S1.1 n j) → (∀ r' w, mt_ cdn_ e r r' w → w = kv ∧ (kv = 0 → r = r' ∧ Fb 100 0 = r)) → jj_ l yy_La_law code 7 (some .boolean) G room_1 A (mm_ret (fun v _ => v = some (.int 1))) (4 * k) (22 * k) 460 [(4, .int (nI (1 + 4 * n))), (3, .ref (g 100)), (2, .ref (g 60)), (1, .ref (g 0)), (0, .ref b)] [.int kv] M2 := by
      intro Fb M2 kv hS2 hFb hkv
      obtain ⟨r', F1, ev, hm, hrow, hI1, T, hsim⟩ := ht Fb hFb
      obtain ⟨hw, hz0⟩ := hkv r' (F1 60 1) hm
      have hz : kv = 0 → r = r' ∧ F1 100 0 = r := fun h => ⟨(hz0 h).1, (hrow 100 0 (by omega)).trans (hz0 h).2⟩
      refine jj_istore (lv' := [(5, .int kv), (4, .int (nI (1 + 4 * n))), (3, .ref (g 100)), (2, .ref (g 60)), (1, .ref (g 0)), (0, .ref b)]) dd_La_law_460 (Nat.le_of_ble_eq_true rfl) rfl ?_
      refine jj_aload_n 3 dd_La_law_462 rfl ?_
      refine jj_aload_n 5 dd_La_law_463 rfl ?_
      refine jj_iload 1 dd_La_law_464 rfl ?_
      refine jj_iconst (v := 1) dd_La_law_466 rfl ?_
      refine jj_iadd dd_La_law_467 ?_
      refine jj_ti (x' := nI (1 + 4 * n + 1)) (nI_add (1 + 4 * n) 1) ?_
      refine jj_sald hG dd_La_law_468 (vp_in_nI (by omega) (by omega)) (1 + 4 * n + 1) (nI_clamp (by omega)) ?_
      refine jj_ti (x' := nI i) ei ?_
      have hok : ok_ (uf_ Fb 60 1 0) := hsim.2.2.2.1
      have hr := hsim.2.2.2.2.2.2.2.1
      have hr2 := hsim.2.2.2.2.2.2.2.2
      refine jj_callV (ci := 7) [_] [] (4 * k) (22 * k) dd_La_law_469 cs_La_81 ci_La_81 (hS2.1.1 60 _ rfl) ⟨by decide, rfl⟩ rfl (Nat.le_of_ble_eq_true rfl) ⟨(Nat.le_of_ble_eq_true rfl), (Nat.le_of_ble_eq_true rfl)⟩ ⟨by omega, by omega⟩ rfl (cs_use (cs_Mo_clear rfl hi hok hr (show rec_ (uf_ Fb 60 1 0) < 1538 by omega) ?_) hS2)
      have ev2 : ∀ K', K' r' F1 → ce_ (uf_ Fb 60 1 0) i K' := ev
      show ce_ (uf_ Fb 60 1 0) i _
      generalize ce_ (uf_ Fb 60 1 0) i = WW at ev2 ⊢
      refine ev2 _ (fun M3 hS3 => ?_)
      refine jj_istore (lv' := [(6, .int r'), (5, .int kv), (4, .int (nI (1 + 4 * n))), (3, .ref (g 100)), (2, .ref (g 60)), (1, .ref (g 0)), (0, .ref b)]) dd_La_law_472 (Nat.le_of_ble_eq_true rfl) rfl ?_
      refine jj_aload_n 4 dd_La_law_474 rfl ?_
      refine jj_callV (ci := 7) [] [] (4 * k) (22 * k) dd_La_law_475 cs_La_55 ci_La_55 (hS3.1.1 60 _ rfl) ⟨by decide, rfl⟩ rfl (Nat.le_of_ble_eq_true rfl) ⟨(Nat.le_of_ble_eq_true rfl), (Nat.le_of_ble_eq_true rfl)⟩ ⟨by omega, by omega⟩ rfl (cs_use (cs_Mo_thrown (fun M4 hS4 => ?_)) hS3)
      refine jj_iload 1 dd_La_law_478 rfl ?_
      refine jj_icmp_eq (tgt := 485) dd_La_law_480 (by decide) (fun _ => ?_) (fun h => absurd hw h)
      refine jj_iload 1 dd_La_law_485 rfl ?_
      refine jj_if_ne (tgt := 502) dd_La_law_487 (by decide) (fun _ => ?_) (fun h0 => ?_)
      · skip
        refine jj_goto (tgt := 868) dd_La_law_502 (by decide) ?_
        refine jj_sub [2, 3, 4, 5, 6] rfl ?_
        exact nxt _ _ hS4 hI1
      · skip
        obtain ⟨hz1, hz2⟩ := hz h0
        refine jj_aload_n 3 dd_La_law_490 rfl ?_
        refine jj_iconst (v := 0) dd_La_law_491 rfl ?_
        refine jj_lald dd_La_law_492 (hS4.1.1 100 _ rfl) (vp_in_nI (n := 0) (by decide) (by decide)) ?_
        refine jj_iload 0 dd_La_law_493 rfl ?_
        refine jj_i2l dd_La_law_495 ?_
        refine jj_lcmp dd_La_law_496 ?_
        refine jj_if_eq (tgt := 502) dd_La_law_497 (by decide) (fun _ => ?_) (fun h => absurd ?_ h)
        · skip
          refine jj_goto (tgt := 868) dd_La_law_502 (by decide) ?_
          refine jj_sub [2, 3, 4, 5, 6] rfl ?_
          exact nxt _ _ hS4 hI1
        · rw [lg_cmp_eq]
          show (mm_i M4 (g 100) 0).toInt64 = _
          rw [rp_row hS4]
          show (F1 100 0).toInt64 = _
          rw [hz2, hz1]
    refine ⟨fun h0 => ?_, fun h0 => ?_⟩
    · refine cont (uf_ S1.1 100 0 r) _ 0 (rp_si (n := 100) hS1 rfl) (fun n j hn => uf_o _ _ _ _ _ _ (by omega)) (fun r' w hm => ?_)
      rcases hm with ⟨_, a, b⟩ | ⟨a, _⟩
      · exact ⟨a, fun _ => ⟨b, uf_s _ _ _ _⟩⟩
      · exact absurd h0 a
    · refine cont S1.1 _ (cdn_ e) hS1 (fun _ _ _ => rfl) (fun r' w hm => ?_)
      rcases hm with ⟨a, _⟩ | ⟨a, b, c⟩
      · exact absurd a h0
      · exact ⟨c, fun h => absurd h (cdn_z e a b)⟩
  · skip
    refine jj_aload_n 3 dd_La_law_449 rfl ?_
    refine jj_aload_n 4 dd_La_law_450 rfl ?_
    refine jj_iload 0 dd_La_law_451 rfl ?_
    refine jj_iconst (v := 1) dd_La_law_453 rfl ?_
    refine jj_iadd dd_La_law_454 ?_
    refine jj_ti (x' := nI (1 + 4 * n + 1)) (nI_add (1 + 4 * n) 1) ?_
    refine jj_sald hG dd_La_law_455 (vp_in_nI (by omega) (by omega)) (1 + 4 * n + 1) (nI_clamp (by omega)) ?_
    refine jj_aload_n 1 dd_La_law_456 rfl ?_
    refine jj_callW (n := 3) [.ref (g 0), .int (xs (1 + 4 * n + 1)), .ref (g 100)] [] (4 * k) (22 * k) dd_La_law_457 cww_La_clear ck_La ⟨by decide, by decide, by decide +kernel⟩ lk_La_79 ci_La_79 rfl (Nat.le_of_ble_eq_true rfl) ⟨(Nat.le_of_ble_eq_true rfl), (Nat.le_of_ble_eq_true rfl)⟩ ⟨by omega, by omega⟩ rfl (cw_La_clear0 hfl hS hi0 ?_)
    show jj_ _ _ _ _ _ _ _ _ _ _ _ 460 _ [.int 1] M
    refine jj_istore (lv' := [(5, .int 1), (4, .int (nI (1 + 4 * n))), (3, .ref (g 100)), (2, .ref (g 60)), (1, .ref (g 0)), (0, .ref b)]) dd_La_law_460 (Nat.le_of_ble_eq_true rfl) rfl ?_
    refine jj_aload_n 3 dd_La_law_462 rfl ?_
    refine jj_aload_n 5 dd_La_law_463 rfl ?_
    refine jj_iload 1 dd_La_law_464 rfl ?_
    refine jj_iconst (v := 1) dd_La_law_466 rfl ?_
    refine jj_iadd dd_La_law_467 ?_
    refine jj_ti (x' := nI (1 + 4 * n + 1)) (nI_add (1 + 4 * n) 1) ?_
    refine jj_sald hG dd_La_law_468 (vp_in_nI (by omega) (by omega)) (1 + 4 * n + 1) (nI_clamp (by omega)) ?_
    refine jj_callV (ci := 7) [_] [] (4 * k) (22 * k) dd_La_law_469 cs_La_81 ci_La_81 (hS.1.1 60 _ rfl) ⟨by decide, rfl⟩ rfl (Nat.le_of_ble_eq_true rfl) ⟨(Nat.le_of_ble_eq_true rfl), (Nat.le_of_ble_eq_true rfl)⟩ ⟨by omega, by omega⟩ rfl (cs_use (cs_Mo_clear0 rfl (vo_ (n := 11) (by decide) hi0) (fun M3 hS3 => ?_)) hS)
    have hI1 := inv_err (x := 1) hI
    generalize hF1 : uf_ (uf_ S.1 60 1 0) 60 1 1 = F1 at hS3 hI1
    have hw : F1 60 1 = 1 := by rw [← hF1]; exact uf_s _ _ _ _
    have hz : (1 : Int32) = 0 → (0 : Int32) = 0 ∧ F1 100 0 = 0 := fun h => absurd h (by decide)
    refine jj_istore (lv' := [(6, .int 0), (5, .int 1), (4, .int (nI (1 + 4 * n))), (3, .ref (g 100)), (2, .ref (g 60)), (1, .ref (g 0)), (0, .ref b)]) dd_La_law_472 (Nat.le_of_ble_eq_true rfl) rfl ?_
    refine jj_aload_n 4 dd_La_law_474 rfl ?_
    refine jj_callV (ci := 7) [] [] (4 * k) (22 * k) dd_La_law_475 cs_La_55 ci_La_55 (hS3.1.1 60 _ rfl) ⟨by decide, rfl⟩ rfl (Nat.le_of_ble_eq_true rfl) ⟨(Nat.le_of_ble_eq_true rfl), (Nat.le_of_ble_eq_true rfl)⟩ ⟨by omega, by omega⟩ rfl (cs_use (cs_Mo_thrown (fun M4 hS4 => ?_)) hS3)
    refine jj_iload 1 dd_La_law_478 rfl ?_
    refine jj_icmp_eq (tgt := 485) dd_La_law_480 (by decide) (fun _ => ?_) (fun h => absurd hw h)
    refine jj_iload 1 dd_La_law_485 rfl ?_
    refine jj_if_ne (tgt := 502) dd_La_law_487 (by decide) (fun _ => ?_) (fun h0 => ?_)
    · skip
      refine jj_goto (tgt := 868) dd_La_law_502 (by decide) ?_
      refine jj_sub [2, 3, 4, 5, 6] rfl ?_
      exact nxt _ _ hS4 hI1
    · skip
      obtain ⟨hz1, hz2⟩ := hz h0
      refine jj_aload_n 3 dd_La_law_490 rfl ?_
      refine jj_iconst (v := 0) dd_La_law_491 rfl ?_
      refine jj_lald dd_La_law_492 (hS4.1.1 100 _ rfl) (vp_in_nI (n := 0) (by decide) (by decide)) ?_
      refine jj_iload 0 dd_La_law_493 rfl ?_
      refine jj_i2l dd_La_law_495 ?_
      refine jj_lcmp dd_La_law_496 ?_
      refine jj_if_eq (tgt := 502) dd_La_law_497 (by decide) (fun _ => ?_) (fun h => absurd ?_ h)
      · skip
        refine jj_goto (tgt := 868) dd_La_law_502 (by decide) ?_
        refine jj_sub [2, 3, 4, 5, 6] rfl ?_
        exact nxt _ _ hS4 hI1
      · rw [lg_cmp_eq]
        show (mm_i M4 (g 100) 0).toInt64 = _
        rw [rp_row hS4]
        show (F1 100 0).toInt64 = _
        rw [hz2, hz1]
