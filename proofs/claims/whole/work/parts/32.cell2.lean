theorem vat_nil (n : Nat) : vat_ n [] = none := by cases n <;> rfl
theorem va_cat (r : Option Nat) : (va_rf r).category = 1 := by cases r <;> rfl
theorem va_rf_0 : va_rf none = Value.null := rfl
theorem nd_mid {a p : Nat} {qs rs : List Nat} (h1 : a ∉ qs ++ [p] ++ rs) (h2 : (qs ++ [p] ++ rs).Nodup) : (qs ++ p :: a :: rs).Nodup := by
  have h := List.nodup_cons.mpr ⟨h1, h2⟩
  have pe : List.Perm (qs ++ p :: a :: rs) (a :: (qs ++ [p] ++ rs)) := by
    have := List.perm_middle (a := a) (l₁ := qs ++ [p]) (l₂ := rs)
    simpa using this
  exact pe.nodup_iff.mpr h
def ins_ (v : vv_) : List vv_ → List vv_
  | [] => [v]
  | w :: ws => if w.1 ≤ v.1 then v :: w :: ws else w :: ins_ v ws
def fg_ (x : Int32) : List vv_ → Int32 → Int32 → List vv_ × Int32
  | [], _, k => ([], k)
  | v :: vs, b, k => if x ≤ v.1 then (v :: (fg_ x vs b k).1, (fg_ x vs b k).2)
    else if v.2.2.1 = 1 then (if b = 0 then (v :: (fg_ x vs 1 k).1, (fg_ x vs 1 k).2) else fg_ x vs 1 (k - 1))
    else if v.2.2.1 = 3 then fg_ x vs b (k - 1) else fg_ x vs 1 (k - 1)
theorem ins_cons (v : vv_) (a b c d : Int32) (ws : List vv_) : ins_ v ((a, b, c, d) :: ws) = if a ≤ v.1 then v :: (a, b, c, d) :: ws else (a, b, c, d) :: ins_ v ws := rfl
theorem fg_cons (x a b c d : Int32) (vs : List vv_) (z k : Int32) : fg_ x ((a, b, c, d) :: vs) z k = if x ≤ a then ((a, b, c, d) :: (fg_ x vs z k).1, (fg_ x vs z k).2)
    else if c = 1 then (if z = 0 then ((a, b, c, d) :: (fg_ x vs 1 k).1, (fg_ x vs 1 k).2) else fg_ x vs 1 (k - 1))
    else if c = 3 then fg_ x vs z (k - 1) else fg_ x vs 1 (k - 1) := rfl
theorem up_same {α : Type} {L : Nat → α} {i : Nat} {x : α} (h : L i = x) : up_ L i x = L := by
  funext j
  rw [up_at]
  by_cases e : j = i
  · rw [if_pos e, e, h]
  · rw [if_neg e]
theorem up_up {α : Type} (L : Nat → α) (i : Nat) (x y : α) : up_ (up_ L i x) i y = up_ L i y := by
  funext j
  rw [up_at, up_at, up_at]
  by_cases e : j = i
  · rw [if_pos e, if_pos e]
  · rw [if_neg e, if_neg e, if_neg e]
theorem uf_uf (F : Nat → Nat → Int32) (n j : Nat) (x y : Int32) : uf_ (uf_ F n j x) n j y = uf_ F n j y := by
  funext a b
  rw [uf_at, uf_at, uf_at]
  by_cases e : a = n ∧ b = j
  · rw [if_pos e, if_pos e]
  · rw [if_neg e, if_neg e, if_neg e]
set_option maxRecDepth 20000 in
theorem ct_Ce_versionAt {l : Launch} {M : mm_M} {Q : Option Value → mm_M → Prop} {g : Nat → Nat} {S : ss_} {i : Nat} (hS : rp_ g M S) (hi : i < 12) {m : Nat} (hm : m < 2 ^ 31) (hQ : ((vat_ m (S.2.2 i) = none → Q (some .null) M) ∧ ∀ b v, vat_ m (S.2.2 i) = some v → mm_k M b = some (.inl 5) → vv_of M b = v → Q (some (.ref b)) M)) : ct_ l yy_Ce_versionAt bb_Ce_versionAt 4 (some (.object "TabletCommits$Version")) 0 0 0 [.ref (g (20 + i)), .int (nI m)] M Q := by
  refine ct_of (by decide) (Nat.le_of_ble_eq_true rfl) (fun G A => ?_)
  obtain ⟨as, hc, hV, _⟩ := rp_as hS hi
  rw [← hV] at hQ
  have loop : ∀ (bs : List Nat) (r : Option Nat) (j : Nat), j ≤ m → ch_ M r bs → ((vat_ (m - j) (bs.map (vv_of M)) = none → Q (some .null) M) ∧ ∀ b v, vat_ (m - j) (bs.map (vv_of M)) = some v → mm_k M b = some (.inl 5) → vv_of M b = v → Q (some (.ref b)) M) → jj_ l yy_Ce_versionAt bb_Ce_versionAt 4 (some (.object "TabletCommits$Version")) G (mm_R 0 0 0) A (mm_ret Q) 0 0 13 [(3, .int (nI (j))), (2, va_rf r), (0, .ref (g (20 + i))), (1, .int (nI (m)))] [] M := by
    intro bs
    induction bs with
    | nil =>
      intro r j hj hc hQ
      cases r with
      | some a => exact hc.elim
      | none =>
        refine jj_iload_n 0 dd_Ce_versionAt_13 rfl ?_
        refine jj_iload_n 3 dd_Ce_versionAt_14 rfl ?_
        refine jj_icmp_ge (tgt := 33) dd_Ce_versionAt_15 (by decide) (fun h15 => ?_) (fun h15 => ?_)
        · skip
          refine jj_aload_nN 1 dd_Ce_versionAt_33 rfl ?_
          refine jj_aret dd_Ce_versionAt_34 rfl (Or.inl ⟨_, rfl⟩) (Or.inl rfl) ?_
          exact hQ.1 (vat_nil _)
        · skip
          refine jj_aload_nN 1 dd_Ce_versionAt_18 rfl ?_
          refine jj_ifnullN (tgt := 33) dd_Ce_versionAt_19 (by decide) ?_
          refine jj_aload_nN 1 dd_Ce_versionAt_33 rfl ?_
          refine jj_aret dd_Ce_versionAt_34 rfl (Or.inl ⟨_, rfl⟩) (Or.inl rfl) ?_
          exact hQ.1 (vat_nil _)
    | cons b bs ih =>
      intro r j hj hc hQ
      cases r with
      | none => exact hc.elim
      | some a =>
        obtain ⟨rfl, hk, hc⟩ := hc
        rw [List.map_cons] at hQ
        refine jj_iload_n 0 dd_Ce_versionAt_13 rfl ?_
        refine jj_iload_n 3 dd_Ce_versionAt_14 rfl ?_
        refine jj_icmp_ge (tgt := 33) dd_Ce_versionAt_15 (by decide) (fun h15 => ?_) (fun h15 => ?_)
        · skip
          refine jj_aload_n 1 dd_Ce_versionAt_33 rfl ?_
          refine jj_aret dd_Ce_versionAt_34 rfl (Or.inl ⟨_, rfl⟩) (Or.inr ⟨_, rfl⟩) ?_
          have e : m - j = 0 := by rw [nI_leI (by omega) (by omega)] at h15; omega
          rw [e] at hQ
          exact hQ.2 a _ rfl hk rfl
        · skip
          refine jj_aload_n 1 dd_Ce_versionAt_18 rfl ?_
          refine jj_ifnull dd_Ce_versionAt_19 ?_
          refine jj_aload_n 1 dd_Ce_versionAt_22 rfl ?_
          refine jj_getr dd_Ce_versionAt_23 ff_Ce_68 hk (fun _ => rfl) (mm_r M a 4) rfl ?_
          refine jj_astore_nR (lv' := [(2, va_rf (mm_r M a 4)), (3, .int (nI (j))), (0, .ref (g (20 + i))), (1, .int (nI (m)))]) dd_Ce_versionAt_26 (Nat.le_of_ble_eq_true rfl) rfl ?_
          refine jj_iinc 1 (lv' := [(3, .int (nI (j + 1))), (2, va_rf (mm_r M a 4)), (0, .ref (g (20 + i))), (1, .int (nI (m)))]) dd_Ce_versionAt_27 rfl (nI_1 j) (Nat.le_of_ble_eq_true rfl) (by generalize mm_r M a 4 = r; cases r <;> rfl) ?_
          refine jj_goto (tgt := 13) dd_Ce_versionAt_30 (by decide) ?_
          have hj2 : j < m := by rw [nI_leI (by omega) (by omega)] at h15; omega
          have e : m - j = (m - (j + 1)) + 1 := by omega
          rw [e] at hQ
          exact ih _ _ (by omega) hc hQ
  refine jj_iload_n 1 dd_Ce_versionAt_0 rfl ?_
  refine jj_if_ge (tgt := 6) dd_Ce_versionAt_1 (by decide) (fun h1 => ?_) (fun h1 => ?_)
  · skip
    refine jj_aload_n 0 dd_Ce_versionAt_6 rfl ?_
    refine jj_getr dd_Ce_versionAt_7 ff_Ce_15 (hS.1.1 _ _ (ok_c hi)) (fun _ => rfl) (mm_r M (g (20 + i)) 2) rfl ?_
    refine jj_astore_nR (lv' := [(2, va_rf (mm_r M (g (20 + i)) 2)), (0, .ref (g (20 + i))), (1, .int (nI (m)))]) dd_Ce_versionAt_10 (Nat.le_of_ble_eq_true rfl) rfl ?_
    refine jj_iconst (v := 0) dd_Ce_versionAt_11 rfl ?_
    refine jj_istore_n (lv' := [(3, .int (0)), (2, va_rf (mm_r M (g (20 + i)) 2)), (0, .ref (g (20 + i))), (1, .int (nI (m)))]) dd_Ce_versionAt_12 (Nat.le_of_ble_eq_true rfl) (by generalize mm_r M (g (20 + i)) 2 = r; cases r <;> rfl) ?_
    exact loop as _ 0 (by omega) hc hQ
  · exact absurd (nI_pos' hm) h1
set_option maxRecDepth 20000 in
theorem ct_Ce_versionAt0 {l : Launch} {M : mm_M} {Q : Option Value → mm_M → Prop} {g : Nat → Nat} {S : ss_} {i : Nat} (hS : rp_ g M S) (hi : i < 12) {x : Int32} (hx : x < 0) (hQ : Q (some .null) M) : ct_ l yy_Ce_versionAt bb_Ce_versionAt 4 (some (.object "TabletCommits$Version")) 0 0 0 [.ref (g (20 + i)), .int x] M Q := by
  refine ct_of (by decide) (Nat.le_of_ble_eq_true rfl) (fun G A => ?_)
  refine jj_iload_n 1 dd_Ce_versionAt_0 rfl ?_
  refine jj_if_ge (tgt := 6) dd_Ce_versionAt_1 (by decide) (fun h1 => ?_) (fun h1 => ?_)
  · exact absurd h1 (mm_nle hx)
  · skip
    refine jj_null dd_Ce_versionAt_4 ?_
    refine jj_aret dd_Ce_versionAt_5 rfl (Or.inl ⟨_, rfl⟩) (Or.inl rfl) ?_
    exact hQ
set_option maxRecDepth 20000 in
theorem ct_Ce_removeBehind0 {l : Launch} {M : mm_M} {Q : Option Value → mm_M → Prop} {a q : Nat} (hk : mm_k M a = some (.inl 3)) (hq : mm_k M q = some (.inl 5)) (hQ : Q none (mm_sr (mm_si M a 3 (mm_i M a 3 - 1)) a 2 (mm_r M q 4))) : ct_ l yy_Ce_removeBehind bb_Ce_removeBehind 3 none 0 0 0 [.ref a, .null, .ref q] M Q := by
  refine ct_of (by decide) (Nat.le_of_ble_eq_true rfl) (fun G A => ?_)
  refine jj_aload_n 0 dd_Ce_removeBehind_0 rfl ?_
  refine jj_dup dd_Ce_removeBehind_1 rfl ?_
  refine jj_geti dd_Ce_removeBehind_2 ff_Ce_19 hk (fun _ => rfl) ?_
  refine jj_iconst (v := 1) dd_Ce_removeBehind_5 rfl ?_
  refine jj_isub dd_Ce_removeBehind_6 ?_
  refine jj_puti dd_Ce_removeBehind_7 (Or.inl ⟨ff_Ce_19, rfl⟩) hk (fun _ => rfl) ⟨rfl, rfl⟩ ?_
  refine jj_aload_nN 1 dd_Ce_removeBehind_10 rfl ?_
  refine jj_ifnonnullN dd_Ce_removeBehind_11 ?_
  refine jj_aload_n 0 dd_Ce_removeBehind_14 rfl ?_
  refine jj_aload_n 2 dd_Ce_removeBehind_15 rfl ?_
  refine jj_getr dd_Ce_removeBehind_16 ff_Ce_68 hq (fun _ => rfl) (mm_r M q 4) rfl ?_
  refine jj_putr (mm_r M q 4) dd_Ce_removeBehind_19 (Or.inl ⟨ff_Ce_15, rfl⟩) hk (fun _ => rfl) (mm_nr rfl) ?_
  refine jj_goto (tgt := 33) dd_Ce_removeBehind_22 (by decide) ?_
  refine jj_vret dd_Ce_removeBehind_33 rfl ?_
  exact hQ
set_option maxRecDepth 20000 in
theorem ct_Ce_removeBehind {l : Launch} {M : mm_M} {Q : Option Value → mm_M → Prop} {a q p : Nat} (hk : mm_k M a = some (.inl 3)) (hq : mm_k M q = some (.inl 5)) (hp : mm_k M p = some (.inl 5)) (hQ : Q none (mm_sr (mm_si M a 3 (mm_i M a 3 - 1)) p 4 (mm_r M q 4))) : ct_ l yy_Ce_removeBehind bb_Ce_removeBehind 3 none 0 0 0 [.ref a, .ref p, .ref q] M Q := by
  refine ct_of (by decide) (Nat.le_of_ble_eq_true rfl) (fun G A => ?_)
  refine jj_aload_n 0 dd_Ce_removeBehind_0 rfl ?_
  refine jj_dup dd_Ce_removeBehind_1 rfl ?_
  refine jj_geti dd_Ce_removeBehind_2 ff_Ce_19 hk (fun _ => rfl) ?_
  refine jj_iconst (v := 1) dd_Ce_removeBehind_5 rfl ?_
  refine jj_isub dd_Ce_removeBehind_6 ?_
  refine jj_puti dd_Ce_removeBehind_7 (Or.inl ⟨ff_Ce_19, rfl⟩) hk (fun _ => rfl) ⟨rfl, rfl⟩ ?_
  refine jj_aload_n 1 dd_Ce_removeBehind_10 rfl ?_
  refine jj_ifnonnull (tgt := 25) dd_Ce_removeBehind_11 (by decide) ?_
  refine jj_aload_n 1 dd_Ce_removeBehind_25 rfl ?_
  refine jj_aload_n 2 dd_Ce_removeBehind_26 rfl ?_
  refine jj_getr dd_Ce_removeBehind_27 ff_Ce_68 hq (fun _ => rfl) (mm_r M q 4) rfl ?_
  refine jj_putr (mm_r M q 4) dd_Ce_removeBehind_30 (Or.inl ⟨ff_Ce_68, rfl⟩) hp (fun _ => rfl) (mm_nr rfl) ?_
  refine jj_vret dd_Ce_removeBehind_33 rfl ?_
  exact hQ
set_option maxRecDepth 20000 in
theorem ct_Ce_keep {l : Launch} {M : mm_M} {Q : Option Value → mm_M → Prop} {g : Nat → Nat} {S : ss_} {i : Nat} (hS : rp_ g M S) (hi : i < 12) {a : Nat} {v : vv_} (ha : mm_k M a = some (.inl 5)) (hva : vv_of M a = v) (hfr : fr_ g M a) (hk : S.1 (20 + i) 3 < 512) (hQ : ∀ M', rp_ g M' (uf_ S.1 (20 + i) 3 (S.1 (20 + i) 3 + 1), S.2.1, up_ S.2.2 i (ins_ v (S.2.2 i))) → lq_ M M' → Q none M') : ct_ l yy_Ce_keep bb_Ce_keep 4 none 0 0 0 [.ref (g (20 + i)), .ref a] M Q := by
  refine ct_of (by decide) (Nat.le_of_ble_eq_true rfl) (fun G A => ?_)
  obtain ⟨as, hc, hV, hnd⟩ := rp_as hS hi
  have fin_ : ∀ (rs ps : List Nat) (e lt : Option Nat), as = ps ++ rs → sg_ M (mm_r M (g (20 + i)) 2) ps e → ch_ M e rs → ((lt = none ∧ ps = []) ∨ ∃ p qs, lt = some p ∧ ps = qs ++ [p]) → ins_ v (S.2.2 i) = ps.map (vv_of M) ++ v :: rs.map (vv_of M) → jj_ l yy_Ce_keep bb_Ce_keep 4 none G (mm_R 0 0 0) A (mm_ret Q) 0 0 43 [(3, va_rf e), (2, va_rf lt), (0, .ref (g (20 + i))), (1, .ref a)] [] M := by
    intro rs ps e lt has hsg hch hlt hins
    obtain ⟨hS1, hf1, hc1⟩ := rp_sfree (x := e) hS ha hfr
    have hca : ch_ M (mm_r M (g (20 + i)) 2) (ps ++ rs) := has ▸ hc
    have hc0 := hc1 i hi _ hca
    have hane : a ∉ ps ++ rs := hfr i hi _ hca
    have hne : ∀ n t, oo_k n = some t → a ≠ g n := fun n t h => rp_5ne hS.1 ha h
    have hch1 : ch_ (mm_sr M a 4 e) (some a) (a :: rs) := ⟨rfl, ha, by rw [mm_r_sr, if_pos ⟨rfl, rfl⟩]; exact ch_sg.mpr (sg_frame (M := M) (fun b hb => ⟨rfl, by rw [mm_r_sr, if_neg (show ¬ (b = a ∧ 4 = 4) from fun z => hane (z.1 ▸ List.mem_append_right _ hb))]⟩) (ch_sg.mp hch))⟩
    have hndr : (ps ++ rs).Nodup := has ▸ hnd
    have hvv : vv_of (mm_sr M a 4 e) = vv_of M := rfl
    have hroot : mm_r (mm_sr M a 4 e) (g (20 + i)) 2 = mm_r M (g (20 + i)) 2 := by rw [mm_r_sr, if_neg (fun z => hne _ _ (ok_c hi) z.1.symm)]
    rcases hlt with ⟨rfl, rfl⟩ | ⟨p, qs, rfl, rfl⟩
    · skip
      refine jj_aload_n 3 dd_Ce_keep_43 rfl ?_
      refine jj_aload_nR 0 dd_Ce_keep_44 rfl ?_
      refine jj_putr e dd_Ce_keep_45 (Or.inl ⟨ff_Ce_68, rfl⟩) ha (fun _ => rfl) (mm_nr rfl) ?_
      refine jj_aload_nN 1 dd_Ce_keep_48 rfl ?_
      refine jj_ifnonnullN dd_Ce_keep_49 ?_
      refine jj_aload_n 2 dd_Ce_keep_52 rfl ?_
      refine jj_aload_n 3 dd_Ce_keep_53 rfl ?_
      refine jj_putr (some a) dd_Ce_keep_54 (Or.inl ⟨ff_Ce_15, rfl⟩) (hS.1.1 _ _ (ok_c hi)) (fun _ => rfl) (mm_nr rfl) ?_
      refine jj_goto (tgt := 65) dd_Ce_keep_57 (by decide) ?_
      refine jj_aload_n 2 dd_Ce_keep_65 rfl ?_
      refine jj_dup dd_Ce_keep_66 rfl ?_
      refine jj_geti dd_Ce_keep_67 ff_Ce_19 (hS.1.1 _ _ (ok_c hi)) (fun _ => rfl) ?_
      refine jj_iconst (v := 1) dd_Ce_keep_70 rfl ?_
      refine jj_iadd dd_Ce_keep_71 ?_
      refine jj_puti dd_Ce_keep_72 (Or.inl ⟨ff_Ce_19, rfl⟩) (hS.1.1 _ _ (ok_c hi)) (fun _ => rfl) ⟨rfl, rfl⟩ ?_
      refine jj_vret dd_Ce_keep_75 rfl ?_
      have h2 := rp_sroot hS1 hi (by rw [hroot]; exact hc0) hch1 (List.nodup_cons.mpr ⟨hane, hndr⟩) (fun b hb => by rcases List.mem_cons.mp hb with rfl | hb; exact Or.inr hf1; exact Or.inl hb)
      have h3 := rp_si (j := 3) (x := mm_i M (g (20 + i)) 3 + 1) h2 (ok_c hi)
      refine hQ _ ?_ (fun b hb => ⟨hb, fun j => by rw [mm_i_si, if_neg (fun z => rp_4ne hS.1 hb (ok_c hi) z.1)]; rfl⟩)
      rw [hins, List.map_nil, List.nil_append, ← hva, ← hS.2.1 _ _ (ok_c hi) 3]
      exact h3
    · skip
      have hpk : mm_k M p = some (.inl 5) := ch_kind hca p (by simp)
      refine jj_aload_n 3 dd_Ce_keep_43 rfl ?_
      refine jj_aload_nR 0 dd_Ce_keep_44 rfl ?_
      refine jj_putr e dd_Ce_keep_45 (Or.inl ⟨ff_Ce_68, rfl⟩) ha (fun _ => rfl) (mm_nr rfl) ?_
      refine jj_aload_n 1 dd_Ce_keep_48 rfl ?_
      refine jj_ifnonnull (tgt := 60) dd_Ce_keep_49 (by decide) ?_
      refine jj_aload_n 1 dd_Ce_keep_60 rfl ?_
      refine jj_aload_n 3 dd_Ce_keep_61 rfl ?_
      refine jj_putr (some a) dd_Ce_keep_62 (Or.inl ⟨ff_Ce_68, rfl⟩) hpk (fun _ => rfl) (mm_nr rfl) ?_
      refine jj_aload_n 2 dd_Ce_keep_65 rfl ?_
      refine jj_dup dd_Ce_keep_66 rfl ?_
      refine jj_geti dd_Ce_keep_67 ff_Ce_19 (hS.1.1 _ _ (ok_c hi)) (fun _ => rfl) ?_
      refine jj_iconst (v := 1) dd_Ce_keep_70 rfl ?_
      refine jj_iadd dd_Ce_keep_71 ?_
      refine jj_puti dd_Ce_keep_72 (Or.inl ⟨ff_Ce_19, rfl⟩) (hS.1.1 _ _ (ok_c hi)) (fun _ => rfl) ⟨rfl, rfl⟩ ?_
      refine jj_vret dd_Ce_keep_75 rfl ?_
      have h2 := rp_slink (ps := qs) (p := p) (qs := rs) (rs := a :: rs) hS1 hi (by rw [hroot, List.append_assoc] at *; exact hc0) hch1 (nd_mid hane hndr) (fun b hb => by rcases List.mem_cons.mp hb with rfl | hb; exact Or.inr hf1; exact Or.inl hb)
      have h3 := rp_si (j := 3) (x := mm_i M (g (20 + i)) 3 + 1) h2 (ok_c hi)
      refine hQ _ ?_ (fun b hb => ⟨hb, fun j => by rw [mm_i_si, if_neg (fun z => rp_4ne hS.1 hb (ok_c hi) z.1)]; rfl⟩)
      rw [hins, ← hva, ← hS.2.1 _ _ (ok_c hi) 3]
      have e1 : (qs ++ p :: a :: rs).map (vv_of (mm_sr M a 4 e)) = (qs ++ [p]).map (vv_of M) ++ vv_of M a :: rs.map (vv_of M) := by rw [hvv]; simp
      rw [← e1]
      exact h3
  have loop : ∀ (rs ps : List Nat) (e lt : Option Nat), as = ps ++ rs → sg_ M (mm_r M (g (20 + i)) 2) ps e → ch_ M e rs → ((lt = none ∧ ps = []) ∨ ∃ p qs, lt = some p ∧ ps = qs ++ [p]) → ins_ v (S.2.2 i) = ps.map (vv_of M) ++ ins_ v (rs.map (vv_of M)) → jj_ l yy_Ce_keep bb_Ce_keep 4 none G (mm_R 0 0 0) A (mm_ret Q) 0 0 18 [(3, va_rf e), (2, va_rf lt), (0, .ref (g (20 + i))), (1, .ref a)] [] M := by
    intro rs
    induction rs with
    | nil =>
      intro ps e lt has hsg hch hlt hins
      cases e with
      | some b => exact hch.elim
      | none =>
        refine jj_aload_nN 0 dd_Ce_keep_18 rfl ?_
        refine jj_ifnullN (tgt := 43) dd_Ce_keep_19 (by decide) ?_
        exact fin_ [] ps none lt has hsg hch hlt hins
    | cons b rs ih =>
      intro ps e lt has hsg hch hlt hins
      cases e with
      | none => exact hch.elim
      | some b2 =>
        have hch0 := hch
        obtain ⟨rfl, hbk, hch⟩ := hch
        rw [List.map_cons, vv_eq M b2, ins_cons] at hins
        refine jj_aload_n 0 dd_Ce_keep_18 rfl ?_
        refine jj_ifnull dd_Ce_keep_19 ?_
        refine jj_aload_n 0 dd_Ce_keep_22 rfl ?_
        refine jj_geti dd_Ce_keep_23 ff_Ce_65 hbk (fun _ => rfl) ?_
        refine jj_aload_n 3 dd_Ce_keep_26 rfl ?_
        refine jj_geti dd_Ce_keep_27 ff_Ce_65 ha (fun _ => rfl) ?_
        refine jj_icmp_le (tgt := 43) dd_Ce_keep_30 (by decide) (fun h30 => ?_) (fun h30 => ?_)
        · skip
          rw [if_pos (by rw [← hva]; exact h30)] at hins
          exact fin_ (b2 :: rs) ps (some b2) lt has hsg hch0 hlt hins
        · skip
          refine jj_aload_n 0 dd_Ce_keep_33 rfl ?_
          refine jj_astore_n (lv' := [(2, .ref b2), (3, .ref b2), (0, .ref (g (20 + i))), (1, .ref a)]) dd_Ce_keep_34 (Nat.le_of_ble_eq_true rfl) rfl ?_
          refine jj_aload_n 1 dd_Ce_keep_35 rfl ?_
          refine jj_getr dd_Ce_keep_36 ff_Ce_68 hbk (fun _ => rfl) (mm_r M b2 4) rfl ?_
          refine jj_astore_nR (lv' := [(3, va_rf (mm_r M b2 4)), (2, .ref b2), (0, .ref (g (20 + i))), (1, .ref a)]) dd_Ce_keep_39 (Nat.le_of_ble_eq_true rfl) rfl ?_
          refine jj_goto (tgt := 18) dd_Ce_keep_40 (by decide) ?_
          rw [if_neg (by rw [← hva]; exact h30)] at hins
          exact ih (ps ++ [b2]) _ (some b2) (by rw [has]; simp) (sg_app.mpr ⟨some b2, hsg, rfl, hbk, rfl⟩) hch (Or.inr ⟨b2, ps, rfl, rfl⟩) (by rw [hins]; simp [vv_eq])
  refine jj_aload_n 0 dd_Ce_keep_0 rfl ?_
  refine jj_geti dd_Ce_keep_1 ff_Ce_19 (hS.1.1 _ _ (ok_c hi)) (fun _ => rfl) ?_
  refine jj_sipush (v := 512) dd_Ce_keep_4 rfl ?_
  refine jj_icmp_lt (tgt := 11) dd_Ce_keep_7 (by decide) (fun h7 => ?_) (fun h7 => ?_)
  · skip
    refine jj_null dd_Ce_keep_11 ?_
    refine jj_astore_nN (lv' := [(2, .null), (0, .ref (g (20 + i))), (1, .ref a)]) dd_Ce_keep_12 (Nat.le_of_ble_eq_true rfl) rfl ?_
    refine jj_aload_n 1 dd_Ce_keep_13 rfl ?_
    refine jj_getr dd_Ce_keep_14 ff_Ce_15 (hS.1.1 _ _ (ok_c hi)) (fun _ => rfl) (mm_r M (g (20 + i)) 2) rfl ?_
    refine jj_astore_nR (lv' := [(3, va_rf (mm_r M (g (20 + i)) 2)), (2, .null), (0, .ref (g (20 + i))), (1, .ref a)]) dd_Ce_keep_17 (Nat.le_of_ble_eq_true rfl) rfl ?_
    exact loop as [] _ none rfl rfl hc (Or.inl ⟨rfl, rfl⟩) (by rw [← hV]; rfl)
  · exact absurd (by rw [hS.2.1 _ _ (ok_c hi) 3]; exact hk) h7
