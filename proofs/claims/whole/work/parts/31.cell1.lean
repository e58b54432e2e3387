set_option maxRecDepth 20000 in
theorem ct_Ce_isLockedBy {l : Launch} {M : mm_M} {Q : Option Value → mm_M → Prop} {g : Nat → Nat} {S : ss_} {i : Nat} {x : Int32} (hS : rp_ g M S) (hi : i < 12) (hQ : Q (some (.int (lb_ (S.2.1 i) x))) M) : ct_ l yy_Ce_isLockedBy bb_Ce_isLockedBy 2 (some .boolean) 0 0 0 [.ref (g (20 + i)), .int x] M Q := by
  refine ct_of (by decide) (Nat.le_of_ble_eq_true rfl) (fun G A => ?_)
  cases hL : S.2.1 i with
  | none =>
    rw [hL] at hQ
    refine jj_aload_n 0 dd_Ce_isLockedBy_0 rfl ?_
    refine jj_lk0 hS dd_Ce_isLockedBy_1 ff_Ce_9 hi hL ?_
    refine jj_ifnullN (tgt := 22) dd_Ce_isLockedBy_4 (by decide) ?_
    refine jj_iconst (v := 0) dd_Ce_isLockedBy_22 rfl ?_
    refine jj_iret dd_Ce_isLockedBy_23 rfl rfl ?_
    exact hQ
  | some f =>
    rw [hL] at hQ
    change Q (some (.int (if f 0 = x then 1 else 0))) M at hQ
    refine jj_aload_n 0 dd_Ce_isLockedBy_0 rfl ?_
    refine jj_lk1 hS dd_Ce_isLockedBy_1 ff_Ce_9 hi hL (fun a1 ka1 fa1 => ?_)
    refine jj_ifnull dd_Ce_isLockedBy_4 ?_
    refine jj_aload_n 0 dd_Ce_isLockedBy_7 rfl ?_
    refine jj_lk1 hS dd_Ce_isLockedBy_8 ff_Ce_9 hi hL (fun a8 ka8 fa8 => ?_)
    refine jj_lf ka8 fa8 dd_Ce_isLockedBy_11 ff_Ce_27 (fun _ => rfl) (by decide) ?_
    refine jj_iload_n 1 dd_Ce_isLockedBy_14 rfl ?_
    refine jj_icmp_ne (tgt := 22) dd_Ce_isLockedBy_15 (by decide) (fun h15 => ?_) (fun h15 => ?_)
    · skip
      refine jj_iconst (v := 0) dd_Ce_isLockedBy_22 rfl ?_
      refine jj_iret dd_Ce_isLockedBy_23 rfl rfl ?_
      rw [if_neg h15] at hQ
      exact hQ
    · skip
      refine jj_iconst (v := 1) dd_Ce_isLockedBy_18 rfl ?_
      refine jj_goto (tgt := 23) dd_Ce_isLockedBy_19 (by decide) ?_
      refine jj_iret dd_Ce_isLockedBy_23 rfl rfl ?_
      rw [if_pos h15] at hQ
      exact hQ
set_option maxRecDepth 20000 in
theorem ct_Ce_isLockedBefore {l : Launch} {M : mm_M} {Q : Option Value → mm_M → Prop} {g : Nat → Nat} {S : ss_} {i : Nat} {x : Int32} (hS : rp_ g M S) (hi : i < 12) (hQ : Q (some (.int (lt_ (S.2.1 i) x))) M) : ct_ l yy_Ce_isLockedBefore bb_Ce_isLockedBefore 2 (some .boolean) 0 0 0 [.ref (g (20 + i)), .int x] M Q := by
  refine ct_of (by decide) (Nat.le_of_ble_eq_true rfl) (fun G A => ?_)
  cases hL : S.2.1 i with
  | none =>
    rw [hL] at hQ
    refine jj_aload_n 0 dd_Ce_isLockedBefore_0 rfl ?_
    refine jj_lk0 hS dd_Ce_isLockedBefore_1 ff_Ce_9 hi hL ?_
    refine jj_ifnullN (tgt := 22) dd_Ce_isLockedBefore_4 (by decide) ?_
    refine jj_iconst (v := 0) dd_Ce_isLockedBefore_22 rfl ?_
    refine jj_iret dd_Ce_isLockedBefore_23 rfl rfl ?_
    exact hQ
  | some f =>
    rw [hL] at hQ
    change Q (some (.int (if x ≤ f 0 then 0 else 1))) M at hQ
    refine jj_aload_n 0 dd_Ce_isLockedBefore_0 rfl ?_
    refine jj_lk1 hS dd_Ce_isLockedBefore_1 ff_Ce_9 hi hL (fun a1 ka1 fa1 => ?_)
    refine jj_ifnull dd_Ce_isLockedBefore_4 ?_
    refine jj_aload_n 0 dd_Ce_isLockedBefore_7 rfl ?_
    refine jj_lk1 hS dd_Ce_isLockedBefore_8 ff_Ce_9 hi hL (fun a8 ka8 fa8 => ?_)
    refine jj_lf ka8 fa8 dd_Ce_isLockedBefore_11 ff_Ce_27 (fun _ => rfl) (by decide) ?_
    refine jj_iload_n 1 dd_Ce_isLockedBefore_14 rfl ?_
    refine jj_icmp_ge (tgt := 22) dd_Ce_isLockedBefore_15 (by decide) (fun h15 => ?_) (fun h15 => ?_)
    · skip
      refine jj_iconst (v := 0) dd_Ce_isLockedBefore_22 rfl ?_
      refine jj_iret dd_Ce_isLockedBefore_23 rfl rfl ?_
      rw [if_pos h15] at hQ
      exact hQ
    · skip
      refine jj_iconst (v := 1) dd_Ce_isLockedBefore_18 rfl ?_
      refine jj_goto (tgt := 23) dd_Ce_isLockedBefore_19 (by decide) ?_
      refine jj_iret dd_Ce_isLockedBefore_23 rfl rfl ?_
      rw [if_neg h15] at hQ
      exact hQ
def ovc_ (x : Int32) : List vv_ → Int32
  | [] => 0
  | v :: vs => if v.2.2.1 = 3 then (if v.2.1 = x then 1 else ovc_ x vs) else if v.1 ≤ x then ovc_ x vs else 1
def vwb_ (x : Int32) : List vv_ → Option vv_
  | [] => none
  | v :: vs => if v.2.2.1 = 3 then vwb_ x vs else if v.2.1 = x then some v else vwb_ x vs
def lwb_ (x : Int32) : List vv_ → Option vv_
  | [] => none
  | v :: vs => if v.2.2.1 = 3 then lwb_ x vs else if x ≤ v.1 then lwb_ x vs else some v
def vat_ : Nat → List vv_ → Option vv_
  | _, [] => none
  | 0, v :: _ => some v
  | k + 1, _ :: vs => vat_ k vs
theorem vv_eq (M : mm_M) (a : Nat) : vv_of M a = (mm_i M a 0, mm_i M a 1, mm_i M a 2, mm_i M a 3) := rfl
theorem ovc_cons (x a b c d : Int32) (vs : List vv_) : ovc_ x ((a, b, c, d) :: vs) = if c = 3 then (if b = x then 1 else ovc_ x vs) else if a ≤ x then ovc_ x vs else 1 := rfl
theorem vwb_cons (x a b c d : Int32) (vs : List vv_) : vwb_ x ((a, b, c, d) :: vs) = if c = 3 then vwb_ x vs else if b = x then some (a, b, c, d) else vwb_ x vs := rfl
theorem lwb_cons (x a b c d : Int32) (vs : List vv_) : lwb_ x ((a, b, c, d) :: vs) = if c = 3 then lwb_ x vs else if x ≤ a then lwb_ x vs else some (a, b, c, d) := rfl
set_option maxRecDepth 20000 in
theorem ct_Ce_overtakes {l : Launch} {M : mm_M} {Q : Option Value → mm_M → Prop} {g : Nat → Nat} {S : ss_} {i : Nat} {x : Int32} (hS : rp_ g M S) (hi : i < 12) (hQ : Q (some (.int (ovc_ x (S.2.2 i)))) M) : ct_ l yy_Ce_overtakes bb_Ce_overtakes 3 (some .boolean) 0 0 0 [.ref (g (20 + i)), .int x] M Q := by
  refine ct_of (by decide) (Nat.le_of_ble_eq_true rfl) (fun G A => ?_)
  obtain ⟨as, hc, hV, _⟩ := rp_as hS hi
  rw [← hV] at hQ
  have loop : ∀ (bs : List Nat) (r : Option Nat), ch_ M r bs → Q (some (.int (ovc_ x (bs.map (vv_of M))))) M → jj_ l yy_Ce_overtakes bb_Ce_overtakes 3 (some .boolean) G (mm_R 0 0 0) A (mm_ret Q) 0 0 5 [(2, va_rf r), (0, .ref (g (20 + i))), (1, .int (x))] [] M := by
    intro bs
    induction bs with
    | nil =>
      intro r hc hQ
      cases r with
      | some a => exact hc.elim
      | none =>
        refine jj_aload_nN 0 dd_Ce_overtakes_5 rfl ?_
        refine jj_ifnullN (tgt := 46) dd_Ce_overtakes_6 (by decide) ?_
        refine jj_iconst (v := 0) dd_Ce_overtakes_46 rfl ?_
        refine jj_iret dd_Ce_overtakes_47 rfl rfl ?_
        exact hQ
    | cons b bs ih =>
      intro r hc hQ
      cases r with
      | none => exact hc.elim
      | some a =>
        obtain ⟨rfl, hk, hc⟩ := hc
        rw [List.map_cons, vv_eq, ovc_cons] at hQ
        refine jj_aload_n 0 dd_Ce_overtakes_5 rfl ?_
        refine jj_ifnull dd_Ce_overtakes_6 ?_
        refine jj_aload_n 0 dd_Ce_overtakes_9 rfl ?_
        refine jj_geti dd_Ce_overtakes_10 ff_Ce_61 hk (fun _ => rfl) ?_
        refine jj_iconst (v := 3) dd_Ce_overtakes_13 rfl ?_
        refine jj_icmp_ne (tgt := 28) dd_Ce_overtakes_14 (by decide) (fun h14 => ?_) (fun h14 => ?_)
        · skip
          refine jj_aload_n 0 dd_Ce_overtakes_28 rfl ?_
          refine jj_geti dd_Ce_overtakes_29 ff_Ce_65 hk (fun _ => rfl) ?_
          refine jj_iload_n 2 dd_Ce_overtakes_32 rfl ?_
          refine jj_icmp_le (tgt := 38) dd_Ce_overtakes_33 (by decide) (fun h33 => ?_) (fun h33 => ?_)
          · skip
            refine jj_aload_n 0 dd_Ce_overtakes_38 rfl ?_
            refine jj_getr dd_Ce_overtakes_39 ff_Ce_68 hk (fun _ => rfl) (mm_r M a 4) rfl ?_
            refine jj_astore_nR (lv' := [(2, va_rf (mm_r M a 4)), (0, .ref (g (20 + i))), (1, .int (x))]) dd_Ce_overtakes_42 (Nat.le_of_ble_eq_true rfl) rfl ?_
            refine jj_goto (tgt := 5) dd_Ce_overtakes_43 (by decide) ?_
            rw [if_neg h14, if_pos h33] at hQ
            exact ih _ hc hQ
          · skip
            refine jj_iconst (v := 1) dd_Ce_overtakes_36 rfl ?_
            refine jj_iret dd_Ce_overtakes_37 rfl rfl ?_
            rw [if_neg h14, if_neg h33] at hQ
            exact hQ
        · skip
          refine jj_aload_n 0 dd_Ce_overtakes_17 rfl ?_
          refine jj_geti dd_Ce_overtakes_18 ff_Ce_64 hk (fun _ => rfl) ?_
          refine jj_iload_n 2 dd_Ce_overtakes_21 rfl ?_
          refine jj_icmp_ne (tgt := 38) dd_Ce_overtakes_22 (by decide) (fun h22 => ?_) (fun h22 => ?_)
          · skip
            refine jj_aload_n 0 dd_Ce_overtakes_38 rfl ?_
            refine jj_getr dd_Ce_overtakes_39 ff_Ce_68 hk (fun _ => rfl) (mm_r M a 4) rfl ?_
            refine jj_astore_nR (lv' := [(2, va_rf (mm_r M a 4)), (0, .ref (g (20 + i))), (1, .int (x))]) dd_Ce_overtakes_42 (Nat.le_of_ble_eq_true rfl) rfl ?_
            refine jj_goto (tgt := 5) dd_Ce_overtakes_43 (by decide) ?_
            rw [if_pos h14, if_neg h22] at hQ
            exact ih _ hc hQ
          · skip
            refine jj_goto (tgt := 36) dd_Ce_overtakes_25 (by decide) ?_
            refine jj_iconst (v := 1) dd_Ce_overtakes_36 rfl ?_
            refine jj_iret dd_Ce_overtakes_37 rfl rfl ?_
            rw [if_pos h14, if_pos h22] at hQ
            exact hQ
  refine jj_aload_n 0 dd_Ce_overtakes_0 rfl ?_
  refine jj_getr dd_Ce_overtakes_1 ff_Ce_15 (hS.1.1 _ _ (ok_c hi)) (fun _ => rfl) (mm_r M (g (20 + i)) 2) rfl ?_
  refine jj_astore_nR (lv' := [(2, va_rf (mm_r M (g (20 + i)) 2)), (0, .ref (g (20 + i))), (1, .int (x))]) dd_Ce_overtakes_4 (Nat.le_of_ble_eq_true rfl) rfl ?_
  exact loop as _ hc hQ
set_option maxRecDepth 20000 in
theorem ct_Ce_versionWrittenBy {l : Launch} {M : mm_M} {Q : Option Value → mm_M → Prop} {g : Nat → Nat} {S : ss_} {i : Nat} {x : Int32} (hS : rp_ g M S) (hi : i < 12) (hQ : ((vwb_ x (S.2.2 i) = none → Q (some .null) M) ∧ ∀ b v, vwb_ x (S.2.2 i) = some v → mm_k M b = some (.inl 5) → vv_of M b = v → Q (some (.ref b)) M)) : ct_ l yy_Ce_versionWrittenBy bb_Ce_versionWrittenBy 3 (some (.object "TabletCommits$Version")) 0 0 0 [.ref (g (20 + i)), .int x] M Q := by
  refine ct_of (by decide) (Nat.le_of_ble_eq_true rfl) (fun G A => ?_)
  obtain ⟨as, hc, hV, _⟩ := rp_as hS hi
  rw [← hV] at hQ
  have loop : ∀ (bs : List Nat) (r : Option Nat), ch_ M r bs → ((vwb_ x (bs.map (vv_of M)) = none → Q (some .null) M) ∧ ∀ b v, vwb_ x (bs.map (vv_of M)) = some v → mm_k M b = some (.inl 5) → vv_of M b = v → Q (some (.ref b)) M) → jj_ l yy_Ce_versionWrittenBy bb_Ce_versionWrittenBy 3 (some (.object "TabletCommits$Version")) G (mm_R 0 0 0) A (mm_ret Q) 0 0 5 [(2, va_rf r), (0, .ref (g (20 + i))), (1, .int (x))] [] M := by
    intro bs
    induction bs with
    | nil =>
      intro r hc hQ
      cases r with
      | some a => exact hc.elim
      | none =>
        refine jj_aload_nN 0 dd_Ce_versionWrittenBy_5 rfl ?_
        refine jj_ifnullN (tgt := 35) dd_Ce_versionWrittenBy_6 (by decide) ?_
        refine jj_null dd_Ce_versionWrittenBy_35 ?_
        refine jj_aret dd_Ce_versionWrittenBy_36 rfl (Or.inl ⟨_, rfl⟩) (Or.inl rfl) ?_
        exact hQ.1 rfl
    | cons b bs ih =>
      intro r hc hQ
      cases r with
      | none => exact hc.elim
      | some a =>
        obtain ⟨rfl, hk, hc⟩ := hc
        rw [List.map_cons, vv_eq, vwb_cons] at hQ
        refine jj_aload_n 0 dd_Ce_versionWrittenBy_5 rfl ?_
        refine jj_ifnull dd_Ce_versionWrittenBy_6 ?_
        refine jj_aload_n 0 dd_Ce_versionWrittenBy_9 rfl ?_
        refine jj_geti dd_Ce_versionWrittenBy_10 ff_Ce_61 hk (fun _ => rfl) ?_
        refine jj_iconst (v := 3) dd_Ce_versionWrittenBy_13 rfl ?_
        refine jj_icmp_eq (tgt := 27) dd_Ce_versionWrittenBy_14 (by decide) (fun h14 => ?_) (fun h14 => ?_)
        · skip
          refine jj_aload_n 0 dd_Ce_versionWrittenBy_27 rfl ?_
          refine jj_getr dd_Ce_versionWrittenBy_28 ff_Ce_68 hk (fun _ => rfl) (mm_r M a 4) rfl ?_
          refine jj_astore_nR (lv' := [(2, va_rf (mm_r M a 4)), (0, .ref (g (20 + i))), (1, .int (x))]) dd_Ce_versionWrittenBy_31 (Nat.le_of_ble_eq_true rfl) rfl ?_
          refine jj_goto (tgt := 5) dd_Ce_versionWrittenBy_32 (by decide) ?_
          rw [if_pos h14] at hQ
          exact ih _ hc hQ
        · skip
          refine jj_aload_n 0 dd_Ce_versionWrittenBy_17 rfl ?_
          refine jj_geti dd_Ce_versionWrittenBy_18 ff_Ce_64 hk (fun _ => rfl) ?_
          refine jj_iload_n 2 dd_Ce_versionWrittenBy_21 rfl ?_
          refine jj_icmp_ne (tgt := 27) dd_Ce_versionWrittenBy_22 (by decide) (fun h22 => ?_) (fun h22 => ?_)
          · skip
            refine jj_aload_n 0 dd_Ce_versionWrittenBy_27 rfl ?_
            refine jj_getr dd_Ce_versionWrittenBy_28 ff_Ce_68 hk (fun _ => rfl) (mm_r M a 4) rfl ?_
            refine jj_astore_nR (lv' := [(2, va_rf (mm_r M a 4)), (0, .ref (g (20 + i))), (1, .int (x))]) dd_Ce_versionWrittenBy_31 (Nat.le_of_ble_eq_true rfl) rfl ?_
            refine jj_goto (tgt := 5) dd_Ce_versionWrittenBy_32 (by decide) ?_
            rw [if_neg h14, if_neg h22] at hQ
            exact ih _ hc hQ
          · skip
            refine jj_aload_n 0 dd_Ce_versionWrittenBy_25 rfl ?_
            refine jj_aret dd_Ce_versionWrittenBy_26 rfl (Or.inl ⟨_, rfl⟩) (Or.inr ⟨_, rfl⟩) ?_
            rw [if_neg h14, if_pos h22] at hQ
            exact hQ.2 a _ rfl hk rfl
  refine jj_aload_n 0 dd_Ce_versionWrittenBy_0 rfl ?_
  refine jj_getr dd_Ce_versionWrittenBy_1 ff_Ce_15 (hS.1.1 _ _ (ok_c hi)) (fun _ => rfl) (mm_r M (g (20 + i)) 2) rfl ?_
  refine jj_astore_nR (lv' := [(2, va_rf (mm_r M (g (20 + i)) 2)), (0, .ref (g (20 + i))), (1, .int (x))]) dd_Ce_versionWrittenBy_4 (Nat.le_of_ble_eq_true rfl) rfl ?_
  exact loop as _ hc hQ
set_option maxRecDepth 20000 in
theorem ct_Ce_lastWrittenBefore {l : Launch} {M : mm_M} {Q : Option Value → mm_M → Prop} {g : Nat → Nat} {S : ss_} {i : Nat} {x : Int32} (hS : rp_ g M S) (hi : i < 12) (hQ : ((lwb_ x (S.2.2 i) = none → Q (some .null) M) ∧ ∀ b v, lwb_ x (S.2.2 i) = some v → mm_k M b = some (.inl 5) → vv_of M b = v → Q (some (.ref b)) M)) : ct_ l yy_Ce_lastWrittenBefore bb_Ce_lastWrittenBefore 3 (some (.object "TabletCommits$Version")) 0 0 0 [.ref (g (20 + i)), .int x] M Q := by
  refine ct_of (by decide) (Nat.le_of_ble_eq_true rfl) (fun G A => ?_)
  obtain ⟨as, hc, hV, _⟩ := rp_as hS hi
  rw [← hV] at hQ
  have loop : ∀ (bs : List Nat) (r : Option Nat), ch_ M r bs → ((lwb_ x (bs.map (vv_of M)) = none → Q (some .null) M) ∧ ∀ b v, lwb_ x (bs.map (vv_of M)) = some v → mm_k M b = some (.inl 5) → vv_of M b = v → Q (some (.ref b)) M) → jj_ l yy_Ce_lastWrittenBefore bb_Ce_lastWrittenBefore 3 (some (.object "TabletCommits$Version")) G (mm_R 0 0 0) A (mm_ret Q) 0 0 5 [(2, va_rf r), (0, .ref (g (20 + i))), (1, .int (x))] [] M := by
    intro bs
    induction bs with
    | nil =>
      intro r hc hQ
      cases r with
      | some a => exact hc.elim
      | none =>
        refine jj_aload_nN 0 dd_Ce_lastWrittenBefore_5 rfl ?_
        refine jj_ifnullN (tgt := 35) dd_Ce_lastWrittenBefore_6 (by decide) ?_
        refine jj_null dd_Ce_lastWrittenBefore_35 ?_
        refine jj_aret dd_Ce_lastWrittenBefore_36 rfl (Or.inl ⟨_, rfl⟩) (Or.inl rfl) ?_
        exact hQ.1 rfl
    | cons b bs ih =>
      intro r hc hQ
      cases r with
      | none => exact hc.elim
      | some a =>
        obtain ⟨rfl, hk, hc⟩ := hc
        rw [List.map_cons, vv_eq, lwb_cons] at hQ
        refine jj_aload_n 0 dd_Ce_lastWrittenBefore_5 rfl ?_
        refine jj_ifnull dd_Ce_lastWrittenBefore_6 ?_
        refine jj_aload_n 0 dd_Ce_lastWrittenBefore_9 rfl ?_
        refine jj_geti dd_Ce_lastWrittenBefore_10 ff_Ce_61 hk (fun _ => rfl) ?_
        refine jj_iconst (v := 3) dd_Ce_lastWrittenBefore_13 rfl ?_
        refine jj_icmp_eq (tgt := 27) dd_Ce_lastWrittenBefore_14 (by decide) (fun h14 => ?_) (fun h14 => ?_)
        · skip
          refine jj_aload_n 0 dd_Ce_lastWrittenBefore_27 rfl ?_
          refine jj_getr dd_Ce_lastWrittenBefore_28 ff_Ce_68 hk (fun _ => rfl) (mm_r M a 4) rfl ?_
          refine jj_astore_nR (lv' := [(2, va_rf (mm_r M a 4)), (0, .ref (g (20 + i))), (1, .int (x))]) dd_Ce_lastWrittenBefore_31 (Nat.le_of_ble_eq_true rfl) rfl ?_
          refine jj_goto (tgt := 5) dd_Ce_lastWrittenBefore_32 (by decide) ?_
          rw [if_pos h14] at hQ
          exact ih _ hc hQ
        · skip
          refine jj_aload_n 0 dd_Ce_lastWrittenBefore_17 rfl ?_
          refine jj_geti dd_Ce_lastWrittenBefore_18 ff_Ce_65 hk (fun _ => rfl) ?_
          refine jj_iload_n 2 dd_Ce_lastWrittenBefore_21 rfl ?_
          refine jj_icmp_ge (tgt := 27) dd_Ce_lastWrittenBefore_22 (by decide) (fun h22 => ?_) (fun h22 => ?_)
          · skip
            refine jj_aload_n 0 dd_Ce_lastWrittenBefore_27 rfl ?_
            refine jj_getr dd_Ce_lastWrittenBefore_28 ff_Ce_68 hk (fun _ => rfl) (mm_r M a 4) rfl ?_
            refine jj_astore_nR (lv' := [(2, va_rf (mm_r M a 4)), (0, .ref (g (20 + i))), (1, .int (x))]) dd_Ce_lastWrittenBefore_31 (Nat.le_of_ble_eq_true rfl) rfl ?_
            refine jj_goto (tgt := 5) dd_Ce_lastWrittenBefore_32 (by decide) ?_
            rw [if_neg h14, if_pos h22] at hQ
            exact ih _ hc hQ
          · skip
            refine jj_aload_n 0 dd_Ce_lastWrittenBefore_25 rfl ?_
            refine jj_aret dd_Ce_lastWrittenBefore_26 rfl (Or.inl ⟨_, rfl⟩) (Or.inr ⟨_, rfl⟩) ?_
            rw [if_neg h14, if_neg h22] at hQ
            exact hQ.2 a _ rfl hk rfl
  refine jj_aload_n 0 dd_Ce_lastWrittenBefore_0 rfl ?_
  refine jj_getr dd_Ce_lastWrittenBefore_1 ff_Ce_15 (hS.1.1 _ _ (ok_c hi)) (fun _ => rfl) (mm_r M (g (20 + i)) 2) rfl ?_
  refine jj_astore_nR (lv' := [(2, va_rf (mm_r M (g (20 + i)) 2)), (0, .ref (g (20 + i))), (1, .int (x))]) dd_Ce_lastWrittenBefore_4 (Nat.le_of_ble_eq_true rfl) rfl ?_
  exact loop as _ hc hQ
