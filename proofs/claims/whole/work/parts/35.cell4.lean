theorem jj_vi {l : Launch} {y : MethodName} {cc : ByteArray} {nL : Nat} {ret : Option FieldType} {G : mm_G} {R : Room} {A : Nat → Prop} {Q : mm_O → mm_M → Prop} {mc ms pc : Nat} {lv : List (Nat × Value)} {st : List Value} {M : mm_M} {g : Nat → Nat} {S : ss_} {q : Nat} {x0 x1 x2 x3 : Int32} (hS : rp_ g M S) (hg : ∀ n t, oo_k n = some t → g n ≠ q) (hlf : lf_ g M q) (hfr : fr_ g M q) (hk : mm_k M q = some (.inl 5)) (k : ∀ M', rp_ g M' S → fr_ g M' q → mm_k M' q = some (.inl 5) → vv_of M' q = (x0, x1, x2, x3) → lq_ M M' → jj_ l y cc nL ret G R A Q mc ms pc lv st M') : jj_ l y cc nL ret G R A Q mc ms pc lv st (mm_si (mm_si (mm_si (mm_si (mm_sr M q 4 none) q 0 x0) q 1 x1) q 2 x2) q 3 x3) := by
  obtain ⟨M', e, h1, h2, h3, h4⟩ := rp_vi (x0 := x0) (x1 := x1) (x2 := x2) (x3 := x3) hS hg hlf hfr hk
  refine e ▸ k M' h1 h2 h3 h4 (fun b hb => ?_)
  have hne : b ≠ q := fun z => by rw [z, hk] at hb; cases hb
  exact ⟨by rw [e]; exact hb, fun j => by rw [e]; simp [mm_i_si, mm_i_sr, hne]⟩
theorem jj_li {l : Launch} {y : MethodName} {cc : ByteArray} {nL : Nat} {ret : Option FieldType} {G : mm_G} {R : Room} {A : Nat → Prop} {Q : mm_O → mm_M → Prop} {mc ms pc : Nat} {lv : List (Nat × Value)} {st : List Value} {M : mm_M} {g : Nat → Nat} {S : ss_} {q : Nat} {x0 x1 x2 x3 x4 x5 : Int32} (hS : rp_ g M S) (hg : ∀ n t, oo_k n = some t → g n ≠ q) (hlf : lf_ g M q) (hfr : fr_ g M q) (hk : mm_k M q = some (.inl 4)) (k : ∀ M', rp_ g M' S → mm_k M' q = some (.inl 4) → (mm_i M' q 0 = x0 ∧ mm_i M' q 1 = x1 ∧ mm_i M' q 2 = x2 ∧ mm_i M' q 3 = x3 ∧ mm_i M' q 4 = x4 ∧ mm_i M' q 5 = x5) → jj_ l y cc nL ret G R A Q mc ms pc lv st M') : jj_ l y cc nL ret G R A Q mc ms pc lv st (mm_si (mm_si (mm_si (mm_si (mm_si (mm_si M q 0 x0) q 1 x1) q 2 x2) q 3 x3) q 4 x4) q 5 x5) := by
  obtain ⟨M', e, h1, h2, h3⟩ := rp_li (x0 := x0) (x1 := x1) (x2 := x2) (x3 := x3) (x4 := x4) (x5 := x5) hS hg hlf hfr hk
  rw [← e]
  exact k M' h1 h2 h3
theorem jj_nwS {l : Launch} {y : MethodName} {cc : ByteArray} {nL : Nat} {ret : Option FieldType} {G : mm_G} {R : Room} {A : Nat → Prop} {Q : mm_O → mm_M → Prop} {mc ms pc : Nat} {lv : List (Nat × Value)} {st : List Value} {M : mm_M} {g : Nat → Nat} {S : ss_} {q : Nat} {t : mm_K} (hS : rp_ g M S) (hq : mm_k M q = none) (k : ∀ M', (∀ n t, oo_k n = some t → g n ≠ q) → rp_ g M' S → lf_ g M' q → fr_ g M' q → mm_k M' q = some t → lq_ M M' → jj_ l y cc nL ret G R A Q mc ms pc lv st M') : jj_ l y cc nL ret G R A Q mc ms pc lv st (mm_nw M q t) := by
  obtain ⟨h1, h2, h3, h4⟩ := rp_nw (t := t) hS hq
  exact k _ h1 h2 h3 h4 (by rw [mm_k_nw, if_pos rfl]) (fun b hb => have hne : b ≠ q := fun z => by rw [z, hq] at hb; cases hb
    ⟨by rw [mm_k_nw, if_neg hne]; exact hb, fun j => by rw [mm_i_nw, if_neg hne]⟩)
theorem lb_1 {f : Nat → Int32} {x : Int32} (h : f 0 = x) : lb_ (some f) x = 1 := if_pos h
set_option maxRecDepth 20000 in
theorem ct_Ce_writeLock {l : Launch} {M : mm_M} {Q : Option Value → mm_M → Prop} {g : Nat → Nat} {S : ss_} {i : Nat} (hS : rp_ g M S) (hi : i < 12) {a : Nat} {f : Nat → Int32} (ha : mm_k M a = some (.inl 4)) (hfa : ∀ j, j < 6 → mm_i M a j = f j) (hb : S.1 (10 + i / 4) 0 = 0 ∨ S.1 (10 + i / 4) 0 = 1) (hQ : ∀ M', rp_ g M' (wl_ S i f) → Q (some (.int (plF_ S.1 (i / 4) (10 + i / 4) 0))) M') : ct_ l yy_Ce_writeLock bb_Ce_writeLock 2 (some .boolean) 1 0 0 [.ref (g (20 + i)), .ref a] M Q := by
  refine ct_of (by decide) (Nat.le_of_ble_eq_true rfl) (fun G A => ?_)
  unfold wl_ at hQ
  refine jj_aload_n 0 dd_Ce_writeLock_0 rfl ?_
  refine jj_home hS dd_Ce_writeLock_1 ff_Ce_23 hi ?_
  refine jj_callV (ci := 2) [] [] 0 0 dd_Ce_writeLock_4 cs_Ce_32 ci_Ce_32 (hS.1.1 _ _ (ok_t (by omega))) ⟨by decide, rfl⟩ rfl (Nat.le_of_ble_eq_true rfl) ⟨(Nat.le_of_ble_eq_true rfl), (Nat.le_of_ble_eq_true rfl)⟩ ⟨(Nat.le_of_ble_eq_true rfl), (Nat.le_of_ble_eq_true rfl)⟩ rfl (ct_Ta_putsIntoLog (hS.1.1 _ _ (ok_t (by omega))) ?_)
  obtain ⟨hS1, er, ei, ek⟩ := rp_pl hS (t := i / 4) (by omega)
  obtain ⟨M1, hM1⟩ : ∃ M1, M1 = pl_M M (g (10 + i / 4)) := ⟨_, rfl⟩
  rw [← hM1] at hS1 ei ek
  rw [er, ← hM1]
  have ha1 : mm_k M1 a = some (.inl 4) := by rw [ek]; exact ha
  have hfa1 : ∀ j, j < 6 → mm_i M1 a j = f j := fun j hj => by rw [ei _ (rp_4ne hS.1 ha (ok_t (by omega)))]; exact hfa j hj
  have hS := hS1
  refine jj_if_eq (tgt := 15) dd_Ce_writeLock_7 (by decide) (fun h7 => ?_) (fun h7 => ?_)
  · skip
    refine jj_aload_n 0 dd_Ce_writeLock_15 rfl ?_
    refine jj_home hS dd_Ce_writeLock_16 ff_Ce_23 hi ?_
    refine jj_gS hS dd_Ce_writeLock_19 ff_Ce_38 (ok_t (by omega)) (fun _ => rfl) ?_
    refine jj_ti (x' := plF_ S.1 (i / 4) (10 + i / 4) 0) (by first | rfl | (show uf_ _ _ _ _ _ _ = _; rw [uf_at, if_neg (by omega)])) ?_
    refine jj_iret dd_Ce_writeLock_22 rfl (mm_bl (plF_01 hb)).1 ?_
    rw [if_pos h7] at hQ
    exact hQ _ hS
  · skip
    refine jj_aload_n 0 dd_Ce_writeLock_10 rfl ?_
    refine jj_aload_n 1 dd_Ce_writeLock_11 rfl ?_
    refine jj_sl1 hS dd_Ce_writeLock_12 ⟨ff_Ce_9, rfl⟩ hi ha1 hfa1 (fun M hS => ?_)
    refine jj_aload_n 0 dd_Ce_writeLock_15 rfl ?_
    refine jj_home hS dd_Ce_writeLock_16 ff_Ce_23 hi ?_
    refine jj_gS hS dd_Ce_writeLock_19 ff_Ce_38 (ok_t (by omega)) (fun _ => rfl) ?_
    refine jj_ti (x' := plF_ S.1 (i / 4) (10 + i / 4) 0) (by first | rfl | (show uf_ _ _ _ _ _ _ = _; rw [uf_at, if_neg (by omega)])) ?_
    refine jj_iret dd_Ce_writeLock_22 rfl (mm_bl (plF_01 hb)).1 ?_
    rw [if_neg h7] at hQ
    exact hQ _ hS
set_option maxRecDepth 20000 in
theorem ct_Ce_writeDone {l : Launch} {M : mm_M} {Q : Option Value → mm_M → Prop} {g : Nat → Nat} {S : ss_} {i : Nat} (hS : rp_ g M S) (hi : i < 12) {x : Int32} {f : Nat → Int32} (hL : S.2.1 i = some f) (hb : S.1 (10 + i / 4) 0 = 0 ∨ S.1 (10 + i / 4) 0 = 1) (hk : S.1 (20 + i) 3 < 512) (hQ : ∀ M', rp_ g M' (wr_ S i (dv_ f x)) → Q (some (.int (plF_ S.1 (i / 4) (10 + i / 4) 0))) M') : ct_ l yy_Ce_writeDone bb_Ce_writeDone 2 (some .boolean) 2 1 5 [.ref (g (20 + i)), .int x] M Q := by
  refine ct_of (by decide) (Nat.le_of_ble_eq_true rfl) (fun G A => ?_)
  unfold wr_ dv_ ad_ at hQ
  refine jj_aload_n 0 dd_Ce_writeDone_0 rfl ?_
  refine jj_home hS dd_Ce_writeDone_1 ff_Ce_23 hi ?_
  refine jj_callV (ci := 2) [] [] 1 5 dd_Ce_writeDone_4 cs_Ce_32 ci_Ce_32 (hS.1.1 _ _ (ok_t (by omega))) ⟨by decide, rfl⟩ rfl (Nat.le_of_ble_eq_true rfl) ⟨(Nat.le_of_ble_eq_true rfl), (Nat.le_of_ble_eq_true rfl)⟩ ⟨(Nat.le_of_ble_eq_true rfl), (Nat.le_of_ble_eq_true rfl)⟩ rfl (ct_Ta_putsIntoLog (hS.1.1 _ _ (ok_t (by omega))) ?_)
  obtain ⟨hS1, er, ei, ek⟩ := rp_pl hS (t := i / 4) (by omega)
  obtain ⟨M1, hM1⟩ : ∃ M1, M1 = pl_M M (g (10 + i / 4)) := ⟨_, rfl⟩
  rw [← hM1] at hS1 ei ek
  rw [er, ← hM1]
  have hlq : lq_ M M1 := fun b hb => ⟨by rw [ek]; exact hb, fun j => ei _ (rp_4ne hS.1 hb (ok_t (by omega))) j⟩
  have hS := hS1
  refine jj_if_eq (tgt := 63) dd_Ce_writeDone_7 (by decide) (fun h7 => ?_) (fun h7 => ?_)
  · skip
    refine jj_aload_n 0 dd_Ce_writeDone_63 rfl ?_
    refine jj_home hS dd_Ce_writeDone_64 ff_Ce_23 hi ?_
    refine jj_gS hS dd_Ce_writeDone_67 ff_Ce_38 (ok_t (by omega)) (fun _ => rfl) ?_
    refine jj_ti (x' := plF_ S.1 (i / 4) (10 + i / 4) 0) (by first | rfl | (show uf_ _ _ _ _ _ _ = _; rw [uf_at, if_neg (by omega)])) ?_
    refine jj_iret dd_Ce_writeDone_70 rfl (mm_bl (plF_01 hb)).1 ?_
    rw [if_pos h7] at hQ
    exact hQ _ hS
  · skip
    refine jj_aload_n 0 dd_Ce_writeDone_10 rfl ?_
    refine jj_lk1 hS dd_Ce_writeDone_11 ff_Ce_9 hi hL (fun a11 ka11 fa11 => ?_)
    refine jj_ifnull dd_Ce_writeDone_14 ?_
    refine jj_aload_n 0 dd_Ce_writeDone_17 rfl ?_
    refine jj_new (ci := 5) 0 0 dd_Ce_writeDone_18 (by decide) cl_Ce_42 cn_5 ck_5 (Nat.le_of_ble_eq_true rfl) (Nat.le_of_ble_eq_true rfl) (fun q nq => ?_)
    refine jj_nwS hS nq (fun M gq hS lq fq kq hh => ?_)
    have hlq := lq_trans hlq hh
    refine jj_dup dd_Ce_writeDone_21 rfl ?_
    refine jj_iload_n 1 dd_Ce_writeDone_22 rfl ?_
    refine jj_aload_n 0 dd_Ce_writeDone_23 rfl ?_
    refine jj_lk1 hS dd_Ce_writeDone_24 ff_Ce_9 hi hL (fun a24 ka24 fa24 => ?_)
    refine jj_lf ka24 fa24 dd_Ce_writeDone_27 ff_Ce_27 (fun _ => rfl) (by decide) ?_
    refine jj_aload_n 0 dd_Ce_writeDone_30 rfl ?_
    refine jj_lk1 hS dd_Ce_writeDone_31 ff_Ce_9 hi hL (fun a31 ka31 fa31 => ?_)
    refine jj_lf ka31 fa31 dd_Ce_writeDone_34 ff_Ce_44 (fun _ => rfl) (by decide) ?_
    refine jj_if_eq (tgt := 44) dd_Ce_writeDone_37 (by decide) (fun h37 => ?_) (fun h37 => ?_)
    · skip
      refine jj_iconst (v := 1) dd_Ce_writeDone_44 rfl ?_
      refine jj_aload_n 0 dd_Ce_writeDone_45 rfl ?_
      refine jj_lk1 hS dd_Ce_writeDone_46 ff_Ce_9 hi hL (fun a46 ka46 fa46 => ?_)
      refine jj_lf ka46 fa46 dd_Ce_writeDone_49 ff_Ce_47 (fun _ => rfl) (by decide) ?_
      refine jj_callI [_, _, _, _] [.ref q, .ref (g (20 + i))] 0 0 dd_Ce_writeDone_52 cs_Ce_50 ci_Ce_50 rfl (Nat.le_of_ble_eq_true rfl) ⟨(Nat.le_of_ble_eq_true rfl), (Nat.le_of_ble_eq_true rfl)⟩ ⟨(Nat.le_of_ble_eq_true rfl), (Nat.le_of_ble_eq_true rfl)⟩ rfl (ct_Ve_init kq ?_)
      refine jj_vi hS gq lq fq kq (fun M hS fq kq vq hh => ?_)
      have hlq := lq_trans hlq hh
      refine jj_callV (ci := 3) [.ref q] [] 0 0 dd_Ce_writeDone_55 cs_Ce_53 ci_Ce_53 (hS.1.1 _ _ (ok_c hi)) ⟨by decide, rfl⟩ rfl (Nat.le_of_ble_eq_true rfl) ⟨(Nat.le_of_ble_eq_true rfl), (Nat.le_of_ble_eq_true rfl)⟩ ⟨(Nat.le_of_ble_eq_true rfl), (Nat.le_of_ble_eq_true rfl)⟩ rfl (ct_Ce_keep hS hi kq vq fq (show plF_ S.1 (i / 4) (20 + i) 3 < 512 by rw [plF_oth _ _ _ _ (by omega)]; exact hk) (fun M hS hh => ?_))
      have hlq := lq_trans hlq hh
      refine jj_aload_n 0 dd_Ce_writeDone_58 rfl ?_
      refine jj_null dd_Ce_writeDone_59 ?_
      refine jj_sl0 hS dd_Ce_writeDone_60 ⟨ff_Ce_9, rfl⟩ hi (fun M hS hh => ?_)
      have hlq := lq_trans hlq hh
      refine jj_aload_n 0 dd_Ce_writeDone_63 rfl ?_
      refine jj_home hS dd_Ce_writeDone_64 ff_Ce_23 hi ?_
      refine jj_gS hS dd_Ce_writeDone_67 ff_Ce_38 (ok_t (by omega)) (fun _ => rfl) ?_
      refine jj_ti (x' := plF_ S.1 (i / 4) (10 + i / 4) 0) (by first | rfl | (show uf_ _ _ _ _ _ _ = _; rw [uf_at, if_neg (by omega)])) ?_
      refine jj_iret dd_Ce_writeDone_70 rfl (mm_bl (plF_01 hb)).1 ?_
      rw [if_neg h7, if_pos h37] at hQ
      exact hQ _ hS
    · skip
      refine jj_iconst (v := 2) dd_Ce_writeDone_40 rfl ?_
      refine jj_goto (tgt := 45) dd_Ce_writeDone_41 (by decide) ?_
      refine jj_aload_n 0 dd_Ce_writeDone_45 rfl ?_
      refine jj_lk1 hS dd_Ce_writeDone_46 ff_Ce_9 hi hL (fun a46 ka46 fa46 => ?_)
      refine jj_lf ka46 fa46 dd_Ce_writeDone_49 ff_Ce_47 (fun _ => rfl) (by decide) ?_
      refine jj_callI [_, _, _, _] [.ref q, .ref (g (20 + i))] 0 0 dd_Ce_writeDone_52 cs_Ce_50 ci_Ce_50 rfl (Nat.le_of_ble_eq_true rfl) ⟨(Nat.le_of_ble_eq_true rfl), (Nat.le_of_ble_eq_true rfl)⟩ ⟨(Nat.le_of_ble_eq_true rfl), (Nat.le_of_ble_eq_true rfl)⟩ rfl (ct_Ve_init kq ?_)
      refine jj_vi hS gq lq fq kq (fun M hS fq kq vq hh => ?_)
      have hlq := lq_trans hlq hh
      refine jj_callV (ci := 3) [.ref q] [] 0 0 dd_Ce_writeDone_55 cs_Ce_53 ci_Ce_53 (hS.1.1 _ _ (ok_c hi)) ⟨by decide, rfl⟩ rfl (Nat.le_of_ble_eq_true rfl) ⟨(Nat.le_of_ble_eq_true rfl), (Nat.le_of_ble_eq_true rfl)⟩ ⟨(Nat.le_of_ble_eq_true rfl), (Nat.le_of_ble_eq_true rfl)⟩ rfl (ct_Ce_keep hS hi kq vq fq (show plF_ S.1 (i / 4) (20 + i) 3 < 512 by rw [plF_oth _ _ _ _ (by omega)]; exact hk) (fun M hS hh => ?_))
      have hlq := lq_trans hlq hh
      refine jj_aload_n 0 dd_Ce_writeDone_58 rfl ?_
      refine jj_null dd_Ce_writeDone_59 ?_
      refine jj_sl0 hS dd_Ce_writeDone_60 ⟨ff_Ce_9, rfl⟩ hi (fun M hS hh => ?_)
      have hlq := lq_trans hlq hh
      refine jj_aload_n 0 dd_Ce_writeDone_63 rfl ?_
      refine jj_home hS dd_Ce_writeDone_64 ff_Ce_23 hi ?_
      refine jj_gS hS dd_Ce_writeDone_67 ff_Ce_38 (ok_t (by omega)) (fun _ => rfl) ?_
      refine jj_ti (x' := plF_ S.1 (i / 4) (10 + i / 4) 0) (by first | rfl | (show uf_ _ _ _ _ _ _ = _; rw [uf_at, if_neg (by omega)])) ?_
      refine jj_iret dd_Ce_writeDone_70 rfl (mm_bl (plF_01 hb)).1 ?_
      rw [if_neg h7, if_neg h37] at hQ
      exact hQ _ hS
set_option maxRecDepth 20000 in
theorem ct_Ce_writeVoid {l : Launch} {M : mm_M} {Q : Option Value → mm_M → Prop} {g : Nat → Nat} {S : ss_} {i : Nat} (hS : rp_ g M S) (hi : i < 12) {x : Int32} {f : Nat → Int32} (hL : S.2.1 i = some f) (hx : f 0 = x) (hb : S.1 (10 + i / 4) 0 = 0 ∨ S.1 (10 + i / 4) 0 = 1) (hk : S.1 (20 + i) 3 < 512) (hQ : ∀ M', rp_ g M' (wr_ S i (x, x, 3, 0)) → lq_ M M' → Q (some (.int (plF_ S.1 (i / 4) (10 + i / 4) 0))) M') : ct_ l yy_Ce_writeVoid bb_Ce_writeVoid 2 (some .boolean) 2 1 5 [.ref (g (20 + i)), .int x] M Q := by
  refine ct_of (by decide) (Nat.le_of_ble_eq_true rfl) (fun G A => ?_)
  unfold wr_ ad_ at hQ
  refine jj_aload_n 0 dd_Ce_writeVoid_0 rfl ?_
  refine jj_home hS dd_Ce_writeVoid_1 ff_Ce_23 hi ?_
  refine jj_callV (ci := 2) [] [] 1 5 dd_Ce_writeVoid_4 cs_Ce_32 ci_Ce_32 (hS.1.1 _ _ (ok_t (by omega))) ⟨by decide, rfl⟩ rfl (Nat.le_of_ble_eq_true rfl) ⟨(Nat.le_of_ble_eq_true rfl), (Nat.le_of_ble_eq_true rfl)⟩ ⟨(Nat.le_of_ble_eq_true rfl), (Nat.le_of_ble_eq_true rfl)⟩ rfl (ct_Ta_putsIntoLog (hS.1.1 _ _ (ok_t (by omega))) ?_)
  obtain ⟨hS1, er, ei, ek⟩ := rp_pl hS (t := i / 4) (by omega)
  obtain ⟨M1, hM1⟩ : ∃ M1, M1 = pl_M M (g (10 + i / 4)) := ⟨_, rfl⟩
  rw [← hM1] at hS1 ei ek
  rw [er, ← hM1]
  have hlq : lq_ M M1 := fun b hb => ⟨by rw [ek]; exact hb, fun j => ei _ (rp_4ne hS.1 hb (ok_t (by omega))) j⟩
  have hS := hS1
  refine jj_if_eq (tgt := 38) dd_Ce_writeVoid_7 (by decide) (fun h7 => ?_) (fun h7 => ?_)
  · skip
    refine jj_aload_n 0 dd_Ce_writeVoid_38 rfl ?_
    refine jj_home hS dd_Ce_writeVoid_39 ff_Ce_23 hi ?_
    refine jj_gS hS dd_Ce_writeVoid_42 ff_Ce_38 (ok_t (by omega)) (fun _ => rfl) ?_
    refine jj_ti (x' := plF_ S.1 (i / 4) (10 + i / 4) 0) (by first | rfl | (show uf_ _ _ _ _ _ _ = _; rw [uf_at, if_neg (by omega)])) ?_
    refine jj_iret dd_Ce_writeVoid_45 rfl (mm_bl (plF_01 hb)).1 ?_
    rw [if_pos h7] at hQ
    exact hQ _ hS hlq
  · skip
    refine jj_aload_n 0 dd_Ce_writeVoid_10 rfl ?_
    refine jj_iload_n 1 dd_Ce_writeVoid_11 rfl ?_
    refine jj_callV (ci := 3) [_] [] 1 5 dd_Ce_writeVoid_12 cs_Ce_57 ci_Ce_57 (hS.1.1 _ _ (ok_c hi)) ⟨by decide, rfl⟩ rfl (Nat.le_of_ble_eq_true rfl) ⟨(Nat.le_of_ble_eq_true rfl), (Nat.le_of_ble_eq_true rfl)⟩ ⟨(Nat.le_of_ble_eq_true rfl), (Nat.le_of_ble_eq_true rfl)⟩ rfl (ct_Ce_isLockedBy hS hi ?_)
    refine jj_ti (x' := 1) (by show lb_ (S.2.1 i) x = 1; rw [hL]; exact lb_1 hx) ?_
    refine jj_if_eq (tgt := 23) dd_Ce_writeVoid_15 (by decide) (fun h => absurd h (by decide)) (fun _ => ?_)
    refine jj_aload_n 0 dd_Ce_writeVoid_18 rfl ?_
    refine jj_null dd_Ce_writeVoid_19 ?_
    refine jj_sl0 hS dd_Ce_writeVoid_20 ⟨ff_Ce_9, rfl⟩ hi (fun M hS hh => ?_)
    have hlq := lq_trans hlq hh
    refine jj_aload_n 0 dd_Ce_writeVoid_23 rfl ?_
    refine jj_new (ci := 5) 0 0 dd_Ce_writeVoid_24 (by decide) cl_Ce_42 cn_5 ck_5 (Nat.le_of_ble_eq_true rfl) (Nat.le_of_ble_eq_true rfl) (fun q nq => ?_)
    refine jj_nwS hS nq (fun M gq hS lq fq kq hh => ?_)
    have hlq := lq_trans hlq hh
    refine jj_dup dd_Ce_writeVoid_27 rfl ?_
    refine jj_iload_n 1 dd_Ce_writeVoid_28 rfl ?_
    refine jj_iload_n 1 dd_Ce_writeVoid_29 rfl ?_
    refine jj_iconst (v := 3) dd_Ce_writeVoid_30 rfl ?_
    refine jj_iconst (v := 0) dd_Ce_writeVoid_31 rfl ?_
    refine jj_callI [_, _, _, _] [.ref q, .ref (g (20 + i))] 0 0 dd_Ce_writeVoid_32 cs_Ce_50 ci_Ce_50 rfl (Nat.le_of_ble_eq_true rfl) ⟨(Nat.le_of_ble_eq_true rfl), (Nat.le_of_ble_eq_true rfl)⟩ ⟨(Nat.le_of_ble_eq_true rfl), (Nat.le_of_ble_eq_true rfl)⟩ rfl (ct_Ve_init kq ?_)
    refine jj_vi hS gq lq fq kq (fun M hS fq kq vq hh => ?_)
    have hlq := lq_trans hlq hh
    refine jj_callV (ci := 3) [.ref q] [] 0 0 dd_Ce_writeVoid_35 cs_Ce_53 ci_Ce_53 (hS.1.1 _ _ (ok_c hi)) ⟨by decide, rfl⟩ rfl (Nat.le_of_ble_eq_true rfl) ⟨(Nat.le_of_ble_eq_true rfl), (Nat.le_of_ble_eq_true rfl)⟩ ⟨(Nat.le_of_ble_eq_true rfl), (Nat.le_of_ble_eq_true rfl)⟩ rfl (ct_Ce_keep hS hi kq vq fq (show plF_ S.1 (i / 4) (20 + i) 3 < 512 by rw [plF_oth _ _ _ _ (by omega)]; exact hk) (fun M hS hh => ?_))
    have hlq := lq_trans hlq hh
    refine jj_aload_n 0 dd_Ce_writeVoid_38 rfl ?_
    refine jj_home hS dd_Ce_writeVoid_39 ff_Ce_23 hi ?_
    refine jj_gS hS dd_Ce_writeVoid_42 ff_Ce_38 (ok_t (by omega)) (fun _ => rfl) ?_
    refine jj_ti (x' := plF_ S.1 (i / 4) (10 + i / 4) 0) (by first | rfl | (show uf_ _ _ _ _ _ _ = _; rw [uf_at, if_neg (by omega)])) ?_
    refine jj_iret dd_Ce_writeVoid_45 rfl (mm_bl (plF_01 hb)).1 ?_
    rw [if_neg h7] at hQ
    exact hQ _ hS hlq
set_option maxRecDepth 20000 in
theorem ct_Ce_init {l : Launch} {M : mm_M} {Q : Option Value → mm_M → Prop} {a t : Nat} (hk : mm_k M a = some (.inl 3)) (hQ : Q none (mm_sr (mm_si (mm_sr (mm_sr M a 1 none) a 2 none) a 3 0) a 0 (some t))) : ct_ l yy_Ce_init bb_Ce_init 2 none 1 0 0 [.ref a, .ref t] M Q := by
  refine ct_of (by decide) (Nat.le_of_ble_eq_true rfl) (fun G A => ?_)
  refine jj_aload_n 0 dd_Ce_init_0 rfl ?_
  refine jj_objI dd_Ce_init_1 oi_Ce_3 (Nat.le_of_ble_eq_true rfl) (Nat.le_of_ble_eq_true rfl) ?_
  refine jj_aload_n 0 dd_Ce_init_4 rfl ?_
  refine jj_null dd_Ce_init_5 ?_
  refine jj_putr none dd_Ce_init_6 (Or.inl ⟨ff_Ce_9, rfl⟩) hk (fun _ => rfl) (mm_nr rfl) ?_
  refine jj_aload_n 0 dd_Ce_init_9 rfl ?_
  refine jj_null dd_Ce_init_10 ?_
  refine jj_putr none dd_Ce_init_11 (Or.inl ⟨ff_Ce_15, rfl⟩) hk (fun _ => rfl) (mm_nr rfl) ?_
  refine jj_aload_n 0 dd_Ce_init_14 rfl ?_
  refine jj_iconst (v := 0) dd_Ce_init_15 rfl ?_
  refine jj_puti dd_Ce_init_16 (Or.inl ⟨ff_Ce_19, rfl⟩) hk (fun _ => rfl) ⟨rfl, rfl⟩ ?_
  refine jj_aload_n 0 dd_Ce_init_19 rfl ?_
  refine jj_aload_n 1 dd_Ce_init_20 rfl ?_
  refine jj_putr (some t) dd_Ce_init_21 (Or.inr ⟨fg_Ce_23, rfl⟩) hk (fun _ => rfl) (mm_nr rfl) ?_
  refine jj_vret dd_Ce_init_24 rfl ?_
  exact hQ
