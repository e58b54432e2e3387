def pN_ (f : Nat → Int32) : Nat := (f 1).toNatClampNeg
def cN_ (f : Nat → Int32) : Nat := (f 2).toNatClampNeg
def ci_ (S : ss_) : Prop := (∀ t, t < 3 → (S.1 (10 + t) 0 = 0 ∨ S.1 (10 + t) 0 = 1)) ∧ (∀ i, i < 12 → S.1 (20 + i) 3 < 512) ∧ (∀ i f, i < 12 → S.2.1 i = some f → f 1 = nI (pN_ f) ∧ pN_ f < 12 ∧ f 2 = nI (cN_ f) ∧ cN_ f < 4)
def lsC_ (F : Nat → Nat → Int32) (f : Nat → Int32) (c : Nat) : Int32 := if F (40 + c) 2 = 0 then 1 else if F (40 + c) 4 = f 0 then (if F 0 5 - f 3 < F 0 0 then 0 else 1) else 1
def cuf_ (S : ss_) (i : Nat) (f : Nat → Int32) (K : Int32 → ss_ → Prop) : Prop := if plF_ S.1 (i / 4) (10 + i / 4) 0 = 0 then K (-2) (wr_ S i (f 0, f 0, 3, 0)) else K 2 (wr_ S i (f 0, f 0, 3, 0))
def cu3_ (S : ss_) (i : Nat) (f : Nat → Int32) (K : Int32 → ss_ → Prop) : Option (Nat → Int32) → Prop
  | none => True
  | some f2 => if lsC_ S.1 f2 (cN_ f2) = 0 then K (-2) S
    else if plF_ S.1 (pN_ f / 4) (10 + pN_ f / 4) 0 = 0 then K (-2) (wr_ S (pN_ f) (f 0, f 0, 3, 0))
    else if pN_ f = i then K 2 (wr_ S (pN_ f) (f 0, f 0, 3, 0)) else cuf_ (wr_ S (pN_ f) (f 0, f 0, 3, 0)) i f K
def cu2_ (S : ss_) (i : Nat) (f : Nat → Int32) (K : Int32 → ss_ → Prop) : Option vv_ → Prop
  | some v => if plF_ S.1 (i / 4) (10 + i / 4) 0 = 0 then K (-2) (wr_ S i (dv_ f v.1)) else K 1 (wr_ S i (dv_ f v.1))
  | none => if lb_ (S.2.1 (pN_ f)) (f 0) = 0 then cuf_ S i f K else cu3_ S i f K (S.2.1 (pN_ f))
def cu1_ (S : ss_) (i : Nat) (K : Int32 → ss_ → Prop) : Option (Nat → Int32) → Prop
  | none => K 0 S
  | some f => if S.1 (10 + pN_ f / 4) 0 = 0 then K (-2) S else cu2_ S i f K (vwb_ (f 0) (S.2.2 (pN_ f)))
def cu_ (S : ss_) (i : Nat) (K : Int32 → ss_ → Prop) : Prop := cu1_ S i K (S.2.1 i)
theorem lb_some {f : Option (Nat → Int32)} {x : Int32} (h : ¬ lb_ f x = 0) : ∃ f2, f = some f2 ∧ f2 0 = x := by
  cases f with
  | none => exact absurd rfl h
  | some f2 =>
    refine ⟨f2, rfl, ?_⟩
    by_cases e : f2 0 = x
    · exact e
    · exact absurd (if_neg e) h
theorem wr_L {S : ss_} {p i : Nat} {v : vv_} (h : p ≠ i) : (wr_ S p v).2.1 i = S.2.1 i := by
  unfold wr_ ad_
  split
  · rfl
  · show up_ S.2.1 p none i = _
    rw [up_at, if_neg (fun e => h e.symm)]
theorem wr_F {S : ss_} {p n j : Nat} {v : vv_} (h : n ≠ 10 + p / 4) (h2 : n ≠ 20 + p) : (wr_ S p v).1 n j = S.1 n j := by
  unfold wr_ ad_
  split
  · exact plF_oth _ _ _ _ h
  · show uf_ _ _ _ _ n j = _
    rw [uf_at, if_neg (fun e => h2 e.1), plF_oth _ _ _ _ h]
theorem wr_b {S : ss_} {p t : Nat} {v : vv_} (hp : p < 12) (ht : t < 3) (h : ∀ t, t < 3 → (S.1 (10 + t) 0 = 0 ∨ S.1 (10 + t) 0 = 1)) : (wr_ S p v).1 (10 + t) 0 = 0 ∨ (wr_ S p v).1 (10 + t) 0 = 1 := by
  have e : (wr_ S p v).1 (10 + t) 0 = plF_ S.1 (p / 4) (10 + t) 0 := by
    unfold wr_ ad_
    split
    · rfl
    · show uf_ _ _ _ _ (10 + t) 0 = _
      rw [uf_at, if_neg (fun e => by omega)]
  rw [e]
  by_cases e2 : t = p / 4
  · subst e2
    exact plF_01 (h _ ht)
  · rw [plF_oth _ _ _ _ (by omega)]
    exact h t ht
set_option maxRecDepth 20000 in
theorem ct_TC_endByConflict {l : Launch} {M : mm_M} {Q : Option Value → mm_M → Prop} {g : Nat → Nat} {S : ss_} (hS : rp_ g M S) {c : Nat} (hc : c < 4) (hQ : ∀ M', rp_ g M' (trE_ S.1 c, S.2) → Q (some (.int 0)) M') : ct_ l yy_TC_endByConflict bb_TC_endByConflict 1 (some .int) 1 0 0 [.ref (g (40 + c))] M Q := by
  refine ct_of (by decide) (Nat.le_of_ble_eq_true rfl) (fun G A => ?_)
  refine jj_aload_n 0 dd_TC_endByConflict_0 rfl ?_
  refine jj_callV (ci := 6) [] [] 0 0 dd_TC_endByConflict_1 cs_TC_154 ci_TC_154 (hS.1.1 _ _ (ok_x hc)) ⟨by decide, rfl⟩ rfl (Nat.le_of_ble_eq_true rfl) ⟨(Nat.le_of_ble_eq_true rfl), (Nat.le_of_ble_eq_true rfl)⟩ ⟨(Nat.le_of_ble_eq_true rfl), (Nat.le_of_ble_eq_true rfl)⟩ rfl (ks_Tr_end hS hc (fun M hS => ?_))
  refine jj_iconst (v := 0) dd_TC_endByConflict_4 rfl ?_
  refine jj_iret dd_TC_endByConflict_5 rfl rfl ?_
  exact hQ _ hS
set_option maxRecDepth 20000 in
theorem ct_TC_isLoose {l : Launch} {M : mm_M} {Q : Option Value → mm_M → Prop} {g : Nat → Nat} {S : ss_} (hS : rp_ g M S) {a c : Nat} {f : Nat → Int32} (ka : mm_k M a = some (.inl 4)) (fa : ∀ j, j < 6 → mm_i M a j = f j) (hc : c < 4) (hfc : f 2 = nI c) (hQ : Q (some (.int (lsC_ S.1 f c))) M) : ct_ l yy_TC_isLoose bb_TC_isLoose 3 (some .boolean) 0 0 0 [.ref (g 0), .ref a] M Q := by
  refine ct_of (by decide) (Nat.le_of_ble_eq_true rfl) (fun G A => ?_)
  unfold lsC_ at hQ
  refine jj_aload_n 0 dd_TC_isLoose_0 rfl ?_
  refine jj_tc4 hS dd_TC_isLoose_1 ff_TC_47 ?_
  refine jj_aload_n 1 dd_TC_isLoose_4 rfl ?_
  refine jj_lf ka fa dd_TC_isLoose_5 ff_TC_287 (fun _ => rfl) (by decide) ?_
  refine jj_at4 (c) hS dd_TC_isLoose_8 hc hfc ?_
  refine jj_astore_n (lv' := [(2, .ref (g (40 + c))), (0, .ref (g 0)), (1, .ref a)]) dd_TC_isLoose_9 (Nat.le_of_ble_eq_true rfl) rfl ?_
  refine jj_aload_n 0 dd_TC_isLoose_10 rfl ?_
  refine jj_gS hS dd_TC_isLoose_11 ff_TC_65 (ok_x (by omega)) (fun _ => rfl) ?_
  refine jj_if_eq (tgt := 44) dd_TC_isLoose_14 (by decide) (fun h14 => ?_) (fun h14 => ?_)
  · skip
    refine jj_iconst (v := 1) dd_TC_isLoose_44 rfl ?_
    refine jj_goto (tgt := 49) dd_TC_isLoose_45 (by decide) ?_
    refine jj_iret dd_TC_isLoose_49 rfl rfl ?_
    rw [if_pos h14] at hQ
    exact hQ
  · skip
    refine jj_aload_n 0 dd_TC_isLoose_17 rfl ?_
    refine jj_gS hS dd_TC_isLoose_18 ff_TC_81 (ok_x (by omega)) (fun _ => rfl) ?_
    refine jj_aload_n 2 dd_TC_isLoose_21 rfl ?_
    refine jj_lf ka fa dd_TC_isLoose_22 ff_TC_280 (fun _ => rfl) (by decide) ?_
    refine jj_icmp_ne (tgt := 44) dd_TC_isLoose_25 (by decide) (fun h25 => ?_) (fun h25 => ?_)
    · skip
      refine jj_iconst (v := 1) dd_TC_isLoose_44 rfl ?_
      refine jj_goto (tgt := 49) dd_TC_isLoose_45 (by decide) ?_
      refine jj_iret dd_TC_isLoose_49 rfl rfl ?_
      rw [if_neg h14, if_neg h25] at hQ
      exact hQ
    · skip
      refine jj_aload_n 1 dd_TC_isLoose_28 rfl ?_
      refine jj_gS hS dd_TC_isLoose_29 ff_TC_162 rfl (fun _ => rfl) ?_
      refine jj_aload_n 2 dd_TC_isLoose_32 rfl ?_
      refine jj_lf ka fa dd_TC_isLoose_33 ff_TC_290 (fun _ => rfl) (by decide) ?_
      refine jj_isub dd_TC_isLoose_36 ?_
      refine jj_aload_n 1 dd_TC_isLoose_37 rfl ?_
      refine jj_gS hS dd_TC_isLoose_38 ff_TC_18 rfl (fun _ => rfl) ?_
      refine jj_icmp_lt (tgt := 48) dd_TC_isLoose_41 (by decide) (fun h41 => ?_) (fun h41 => ?_)
      · skip
        refine jj_iconst (v := 0) dd_TC_isLoose_48 rfl ?_
        refine jj_iret dd_TC_isLoose_49 rfl rfl ?_
        rw [if_neg h14, if_pos h25, if_pos h41] at hQ
        exact hQ
      · skip
        refine jj_iconst (v := 1) dd_TC_isLoose_44 rfl ?_
        refine jj_goto (tgt := 49) dd_TC_isLoose_45 (by decide) ?_
        refine jj_iret dd_TC_isLoose_49 rfl rfl ?_
        rw [if_neg h14, if_pos h25, if_neg h41] at hQ
        exact hQ
set_option maxRecDepth 20000 in
theorem ct_TC_clearUp {l : Launch} {M : mm_M} {Q : Option Value → mm_M → Prop} {g : Nat → Nat} {S : ss_} (hS : rp_ g M S) {i : Nat} (hi : i < 12) (hci : ci_ S) (hQ : cu_ S i (fun r S' => ∀ M', rp_ g M' S' → Q (some (.int r)) M')) : ct_ l yy_TC_clearUp bb_TC_clearUp 5 (some .int) 3 2 10 [.ref (g 0), .ref (g (20 + i))] M Q := by
  refine ct_of (by decide) (Nat.le_of_ble_eq_true rfl) (fun G A => ?_)
  unfold cu_ at hQ
  cases hL : S.2.1 i with
  | none =>
    rw [hL] at hQ
    simp only [cu1_] at hQ
    refine jj_aload_n 1 dd_TC_clearUp_0 rfl ?_
    refine jj_lk0 hS dd_TC_clearUp_1 ff_TC_188 hi hL ?_
    refine jj_astore_nN (lv' := [(2, .null), (0, .ref (g 0)), (1, .ref (g (20 + i)))]) dd_TC_clearUp_4 (Nat.le_of_ble_eq_true rfl) rfl ?_
    refine jj_aload_nN 0 dd_TC_clearUp_5 rfl ?_
    refine jj_ifnonnullN dd_TC_clearUp_6 ?_
    refine jj_iconst (v := 0) dd_TC_clearUp_9 rfl ?_
    refine jj_iret dd_TC_clearUp_10 rfl rfl ?_
    exact hQ _ hS
  | some f =>
    rw [hL] at hQ
    simp only [cu1_] at hQ
    obtain ⟨hf1, hp, _, _⟩ := hci.2.2 i f hi hL
    refine jj_aload_n 1 dd_TC_clearUp_0 rfl ?_
    refine jj_lk1 hS dd_TC_clearUp_1 ff_TC_188 hi hL (fun a1 ka1 fa1 => ?_)
    refine jj_astore_n (lv' := [(2, .ref a1), (0, .ref (g 0)), (1, .ref (g (20 + i)))]) dd_TC_clearUp_4 (Nat.le_of_ble_eq_true rfl) rfl ?_
    refine jj_aload_n 0 dd_TC_clearUp_5 rfl ?_
    refine jj_ifnonnull (tgt := 11) dd_TC_clearUp_6 (by decide) ?_
    refine jj_aload_n 1 dd_TC_clearUp_11 rfl ?_
    refine jj_tc3 hS dd_TC_clearUp_12 ff_TC_38 ?_
    refine jj_aload_n 0 dd_TC_clearUp_15 rfl ?_
    refine jj_lf ka1 fa1 dd_TC_clearUp_16 ff_TC_278 (fun _ => rfl) (by decide) ?_
    refine jj_at3 (pN_ f) hS dd_TC_clearUp_19 hp hf1 ?_
    refine jj_astore_n (lv' := [(3, .ref (g (20 + (pN_ f)))), (2, .ref a1), (0, .ref (g 0)), (1, .ref (g (20 + i)))]) dd_TC_clearUp_20 (Nat.le_of_ble_eq_true rfl) rfl ?_
    refine jj_aload_n 0 dd_TC_clearUp_21 rfl ?_
    refine jj_home hS dd_TC_clearUp_22 ff_TC_95 (by omega) ?_
    refine jj_gS hS dd_TC_clearUp_25 ff_TC_99 (ok_t (by omega)) (fun _ => rfl) ?_
    refine jj_if_ne (tgt := 34) dd_TC_clearUp_28 (by decide) (fun h28 => ?_) (fun h28 => ?_)
    · skip
      refine jj_aload_n 0 dd_TC_clearUp_34 rfl ?_
      refine jj_aload_n 1 dd_TC_clearUp_35 rfl ?_
      refine jj_lf ka1 fa1 dd_TC_clearUp_36 ff_TC_280 (fun _ => rfl) (by decide) ?_
      rw [if_neg h28] at hQ
      refine jj_callV (ci := 3) [_] [] 2 10 dd_TC_clearUp_39 cs_TC_265 ci_TC_265 (hS.1.1 _ _ (ok_c (by omega))) ⟨by decide, rfl⟩ rfl (Nat.le_of_ble_eq_true rfl) ⟨(Nat.le_of_ble_eq_true rfl), (Nat.le_of_ble_eq_true rfl)⟩ ⟨(Nat.le_of_ble_eq_true rfl), (Nat.le_of_ble_eq_true rfl)⟩ rfl (ct_Ce_versionWrittenBy hS hp ⟨fun hv => ?_, fun b v hv hbk hbv => ?_⟩)
      · skip
        rw [hv] at hQ
        simp only [cu2_] at hQ
        refine jj_astoreN (lv' := [(4, .null), (3, .ref (g (20 + (pN_ f)))), (2, .ref a1), (0, .ref (g 0)), (1, .ref (g (20 + i)))]) dd_TC_clearUp_42 (Nat.le_of_ble_eq_true rfl) rfl ?_
        refine jj_aloadN 0 dd_TC_clearUp_44 rfl ?_
        refine jj_ifnullN (tgt := 68) dd_TC_clearUp_46 (by decide) ?_
        refine jj_aload_n 1 dd_TC_clearUp_68 rfl ?_
        refine jj_aload_n 2 dd_TC_clearUp_69 rfl ?_
        refine jj_lf ka1 fa1 dd_TC_clearUp_70 ff_TC_280 (fun _ => rfl) (by decide) ?_
        refine jj_callV (ci := 3) [_] [] 2 10 dd_TC_clearUp_73 cs_TC_242 ci_TC_242 (hS.1.1 _ _ (ok_c (by omega))) ⟨by decide, rfl⟩ rfl (Nat.le_of_ble_eq_true rfl) ⟨(Nat.le_of_ble_eq_true rfl), (Nat.le_of_ble_eq_true rfl)⟩ ⟨(Nat.le_of_ble_eq_true rfl), (Nat.le_of_ble_eq_true rfl)⟩ rfl (ct_Ce_isLockedBy hS hp ?_)
        refine jj_if_eq (tgt := 111) dd_TC_clearUp_76 (by decide) (fun h76 => ?_) (fun h76 => ?_)
        · skip
          refine jj_aload_n 4 dd_TC_clearUp_111 rfl ?_
          refine jj_aload_n 2 dd_TC_clearUp_112 rfl ?_
          refine jj_lf ka1 fa1 dd_TC_clearUp_113 ff_TC_280 (fun _ => rfl) (by decide) ?_
          rw [if_pos h76] at hQ
          unfold cuf_ at hQ
          refine jj_callV (ci := 3) [_] [] 0 0 dd_TC_clearUp_116 cs_TC_284 ci_TC_284 (hS.1.1 _ _ (ok_c hi)) ⟨by decide, rfl⟩ rfl (Nat.le_of_ble_eq_true rfl) ⟨(Nat.le_of_ble_eq_true rfl), (Nat.le_of_ble_eq_true rfl)⟩ ⟨(Nat.le_of_ble_eq_true rfl), (Nat.le_of_ble_eq_true rfl)⟩ rfl (ct_Ce_writeVoid hS hi (by first | exact hL1 | exact hL) rfl (by first | exact hb1 | exact hci.1 _ (by omega)) (by first | exact hk1 | exact hci.2.1 i hi) (fun M hS _ => ?_))
          refine jj_if_eq (tgt := 126) dd_TC_clearUp_119 (by decide) (fun h119 => ?_) (fun h119 => ?_)
          · skip
            refine jj_bipush (v := -2) dd_TC_clearUp_126 rfl ?_
            refine jj_iret dd_TC_clearUp_128 rfl rfl ?_
            rw [if_pos h119] at hQ
            exact hQ _ hS
          · skip
            refine jj_iconst (v := 2) dd_TC_clearUp_122 rfl ?_
            refine jj_goto (tgt := 128) dd_TC_clearUp_123 (by decide) ?_
            refine jj_iret dd_TC_clearUp_128 rfl rfl ?_
            rw [if_neg h119] at hQ
            exact hQ _ hS
        · skip
          obtain ⟨f2, hL2, hf2⟩ := lb_some h76
          obtain ⟨_, _, hc2, hc24⟩ := hci.2.2 _ f2 hp hL2
          refine jj_aload_n 3 dd_TC_clearUp_79 rfl ?_
          refine jj_aload_n 1 dd_TC_clearUp_80 rfl ?_
          refine jj_lk1 hS dd_TC_clearUp_81 ff_TC_188 (by omega) hL2 (fun a81 ka81 fa81 => ?_)
          rw [if_neg h76] at hQ
          rw [hL2] at hQ
          simp only [cu3_] at hQ
          refine jj_callV (ci := 0) [.ref a81] [] 2 10 dd_TC_clearUp_84 cs_TC_192 ci_TC_192 (hS.1.1 _ _ rfl) ⟨by decide, rfl⟩ rfl (Nat.le_of_ble_eq_true rfl) ⟨(Nat.le_of_ble_eq_true rfl), (Nat.le_of_ble_eq_true rfl)⟩ ⟨(Nat.le_of_ble_eq_true rfl), (Nat.le_of_ble_eq_true rfl)⟩ rfl (ct_TC_isLoose hS ka81 fa81 hc24 hc2 ?_)
          refine jj_if_eq (tgt := 101) dd_TC_clearUp_87 (by decide) (fun h87 => ?_) (fun h87 => ?_)
          · skip
            refine jj_bipush (v := -2) dd_TC_clearUp_101 rfl ?_
            refine jj_iret dd_TC_clearUp_103 rfl rfl ?_
            rw [if_pos h87] at hQ
            exact hQ _ hS
          · skip
            refine jj_aload_n 1 dd_TC_clearUp_90 rfl ?_
            refine jj_aload_n 2 dd_TC_clearUp_91 rfl ?_
            refine jj_lf ka1 fa1 dd_TC_clearUp_92 ff_TC_280 (fun _ => rfl) (by decide) ?_
            refine jj_callV (ci := 3) [_] [] 1 5 dd_TC_clearUp_95 cs_TC_284 ci_TC_284 (hS.1.1 _ _ (ok_c (by omega))) ⟨by decide, rfl⟩ rfl (Nat.le_of_ble_eq_true rfl) ⟨(Nat.le_of_ble_eq_true rfl), (Nat.le_of_ble_eq_true rfl)⟩ ⟨(Nat.le_of_ble_eq_true rfl), (Nat.le_of_ble_eq_true rfl)⟩ rfl (ct_Ce_writeVoid hS hp hL2 hf2 (hci.1 _ (by omega)) (hci.2.1 _ hp) (fun M hS hlq => ?_))
            have fa1 := fun j hj => ((hlq _ ka1).2 j).trans (fa1 j hj)
            have ka1 := (hlq _ ka1).1
            refine jj_if_ne (tgt := 104) dd_TC_clearUp_98 (by decide) (fun h98 => ?_) (fun h98 => ?_)
            · skip
              refine jj_aload_n 1 dd_TC_clearUp_104 rfl ?_
              refine jj_aload_n 4 dd_TC_clearUp_105 rfl ?_
              refine jj_acmp_ne (some (g (20 + (pN_ f)))) (some (g (20 + i))) (tgt := 111) dd_TC_clearUp_106 (by decide) (fun h106 => ?_) (fun h106 => ?_)
              · skip
                have g106 : ¬ pN_ f = i := fun e => h106 (by rw [e])
                have hL1 := (wr_L (S := S) (v := (f 0, f 0, 3, 0)) g106).trans hL
                have hb1 := wr_b (S := S) (p := pN_ f) (t := i / 4) (v := (f 0, f 0, 3, 0)) hp (by omega) hci.1
                have hk1 : (wr_ S (pN_ f) (f 0, f 0, 3, 0)).1 (20 + i) 3 < 512 := by rw [wr_F (by omega) (by omega)]; exact hci.2.1 i hi
                refine jj_aload_n 4 dd_TC_clearUp_111 rfl ?_
                refine jj_aload_n 2 dd_TC_clearUp_112 rfl ?_
                refine jj_lf ka1 fa1 dd_TC_clearUp_113 ff_TC_280 (fun _ => rfl) (by decide) ?_
                rw [if_neg h87, if_neg h98, if_neg g106] at hQ
                unfold cuf_ at hQ
                refine jj_callV (ci := 3) [_] [] 0 0 dd_TC_clearUp_116 cs_TC_284 ci_TC_284 (hS.1.1 _ _ (ok_c hi)) ⟨by decide, rfl⟩ rfl (Nat.le_of_ble_eq_true rfl) ⟨(Nat.le_of_ble_eq_true rfl), (Nat.le_of_ble_eq_true rfl)⟩ ⟨(Nat.le_of_ble_eq_true rfl), (Nat.le_of_ble_eq_true rfl)⟩ rfl (ct_Ce_writeVoid hS hi (by first | exact hL1 | exact hL) rfl (by first | exact hb1 | exact hci.1 _ (by omega)) (by first | exact hk1 | exact hci.2.1 i hi) (fun M hS _ => ?_))
                refine jj_if_eq (tgt := 126) dd_TC_clearUp_119 (by decide) (fun h119 => ?_) (fun h119 => ?_)
                · skip
                  refine jj_bipush (v := -2) dd_TC_clearUp_126 rfl ?_
                  refine jj_iret dd_TC_clearUp_128 rfl rfl ?_
                  rw [if_pos h119] at hQ
                  exact hQ _ hS
                · skip
                  refine jj_iconst (v := 2) dd_TC_clearUp_122 rfl ?_
                  refine jj_goto (tgt := 128) dd_TC_clearUp_123 (by decide) ?_
                  refine jj_iret dd_TC_clearUp_128 rfl rfl ?_
                  rw [if_neg h119] at hQ
                  exact hQ _ hS
              · skip
                have g106 : pN_ f = i := by have := hS.1.2.1 _ _ _ _ (ok_c hp) (ok_c hi) (Option.some.inj h106); omega
                refine jj_iconst (v := 2) dd_TC_clearUp_109 rfl ?_
                refine jj_iret dd_TC_clearUp_110 rfl rfl ?_
                rw [if_neg h87, if_neg h98, if_pos g106] at hQ
                exact hQ _ hS
            · skip
              refine jj_bipush (v := -2) dd_TC_clearUp_101 rfl ?_
              refine jj_iret dd_TC_clearUp_103 rfl rfl ?_
              rw [if_neg h87, if_pos h98] at hQ
              exact hQ _ hS
      · skip
        rw [hv] at hQ
        simp only [cu2_] at hQ
        refine jj_astore (lv' := [(4, .ref b), (3, .ref (g (20 + (pN_ f)))), (2, .ref a1), (0, .ref (g 0)), (1, .ref (g (20 + i)))]) dd_TC_clearUp_42 (Nat.le_of_ble_eq_true rfl) rfl ?_
        refine jj_aload 0 dd_TC_clearUp_44 rfl ?_
        refine jj_ifnull dd_TC_clearUp_46 ?_
        refine jj_aload_n 4 dd_TC_clearUp_49 rfl ?_
        refine jj_aload 0 dd_TC_clearUp_50 rfl ?_
        refine jj_vf hbk hbv dd_TC_clearUp_52 ff_TC_281 (fun _ => rfl) (by decide) ?_
        refine jj_callV (ci := 3) [_] [] 1 5 dd_TC_clearUp_55 cs_TC_268 ci_TC_268 (hS.1.1 _ _ (ok_c hi)) ⟨by decide, rfl⟩ rfl (Nat.le_of_ble_eq_true rfl) ⟨(Nat.le_of_ble_eq_true rfl), (Nat.le_of_ble_eq_true rfl)⟩ ⟨(Nat.le_of_ble_eq_true rfl), (Nat.le_of_ble_eq_true rfl)⟩ rfl (ct_Ce_writeDone hS hi hL (hci.1 _ (by omega)) (hci.2.1 i hi) (fun M hS => ?_))
        refine jj_if_eq (tgt := 65) dd_TC_clearUp_58 (by decide) (fun h58 => ?_) (fun h58 => ?_)
        · skip
          refine jj_bipush (v := -2) dd_TC_clearUp_65 rfl ?_
          refine jj_iret dd_TC_clearUp_67 rfl rfl ?_
          rw [if_pos h58] at hQ
          exact hQ _ hS
        · skip
          refine jj_iconst (v := 1) dd_TC_clearUp_61 rfl ?_
          refine jj_goto (tgt := 67) dd_TC_clearUp_62 (by decide) ?_
          refine jj_iret dd_TC_clearUp_67 rfl rfl ?_
          rw [if_neg h58] at hQ
          exact hQ _ hS
    · skip
      refine jj_bipush (v := -2) dd_TC_clearUp_31 rfl ?_
      refine jj_iret dd_TC_clearUp_33 rfl rfl ?_
      rw [if_pos h28] at hQ
      exact hQ _ hS
