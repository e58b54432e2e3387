theorem nc_ {c n : Nat} {N : Int32} (hN : N.toInt = (n : Int)) (hc : c ≤ n) (hn : n < 2 ^ 31) : ¬ (nI c < 0 ∨ N < nI c) := by
  intro h
  rcases h with h | h
  · exact nI_pos (by omega) h
  · rw [Int32.lt_iff_toInt_lt, hN, nI_toInt (by omega)] at h
    omega
def zr_ (F : Nat → Nat → Int32) (c : Nat) : Nat → (Nat → Nat → Int32)
  | 0 => F
  | k + 1 => uf_ (uf_ (uf_ (uf_ (zr_ F c k) 87 (12 * c + k) 0) 88 (12 * c + k) 0) 89 (12 * c + k) 0) 90 (12 * c + k) 0
def be_F (F : Nat → Nat → Int32) (c : Nat) : Nat → Nat → Int32 := zr_ (uf_ (uf_ (uf_ (uf_ (ho_F F) 84 c (F 60 3 + 1 - 1)) 83 c 1) 85 c 0) 86 c 0) c 12
def be_ (F : Nat → Nat → Int32) (c : Nat) (K : Int32 → (Nat → Nat → Int32) → Prop) : Prop := if F 83 c = 0 then K (be_F F c 84 c) (be_F F c) else K 0 (uf_ F 60 1 2)
def ki_ (F : Nat → Nat → Int32) (c : Nat) (K : Int32 → (Nat → Nat → Int32) → Prop) : Prop := if F 83 c = 0 then K 0 F else K 1 (uf_ F 83 c 0)
def ce_ (F : Nat → Nat → Int32) (i : Nat) (K : Int32 → (Nat → Nat → Int32) → Prop) : Prop :=
  if F 77 (i / 4) = 0 then
    if F 65 i = 0 then K 0 F
    else cl_ F i (pn_ F i) (on_ F (pn_ F i)) (fun r F1 => if r = 1 then K 0 (uf_ F1 60 1 2) else if r = 0 then K 0 (uf_ F1 60 1 2) else if r = 2 then K 1 F1 else K 2 F1)
  else K 0 (uf_ F 60 1 2)
def cr_ (F : Nat → Nat → Int32) (t : Nat) (K : Int32 → (Nat → Nat → Int32) → Prop) : Prop := if F 77 t = 0 then K 1 (uf_ F 77 t 1) else K 0 F
def re_ (F : Nat → Nat → Int32) (t : Nat) (K : Int32 → (Nat → Nat → Int32) → Prop) : Prop := if F 77 t = 0 then K 0 F else K 1 (uf_ (uf_ F 77 t 0) 81 t 0)
def ch_F (F : Nat → Nat → Int32) (c i : Nat) (x y : Int32) : Nat → Nat → Int32 := if F 83 c = 1 then uf_ (uf_ F 87 (12 * c + i) x) 88 (12 * c + i) y else uf_ F 60 1 2
set_option maxRecDepth 20000 in
theorem cs_Mo_begin0 {l : Launch} {g : Nat → Nat} {S : ss_} {Q : Option Value → ss_ → Prop} {x : Int32} {F : Nat → Nat → Int32} (hF : uf_ S.1 60 1 0 = F) (hx : x < 0 ∨ 3 < x) (hQ : Q (some (.int 0)) (uf_ F 60 1 1, S.2)) : cs_ l yy_Mo_begin bb_Mo_begin 3 (some .int) 2 0 0 g [.ref (g 60), .int x] S Q := by
  intro M hS
  refine ct_of (by decide) (Nat.le_of_ble_eq_true rfl) (fun G A => ?_)
  refine jj_aload_n 0 dd_Mo_begin_0 rfl ?_
  refine jj_iconst (v := 0) dd_Mo_begin_1 rfl ?_
  refine jj_pS hS dd_Mo_begin_2 ⟨ff_Mo_93, rfl⟩ rfl (fun _ => rfl) ⟨rfl, rfl⟩ (fun M hS => ?_)
  rw [hF] at hS
  refine jj_aload_n 0 dd_Mo_begin_5 rfl ?_
  refine jj_iload_n 1 dd_Mo_begin_6 rfl ?_
  refine jj_callV (ci := 7) [_] [] 0 0 dd_Mo_begin_7 cs_Mo_131 ci_Mo_131 (hS.1.1 60 _ rfl) ⟨by decide, rfl⟩ rfl (Nat.le_of_ble_eq_true rfl) ⟨(Nat.le_of_ble_eq_true rfl), (Nat.le_of_ble_eq_true rfl)⟩ ⟨(Nat.le_of_ble_eq_true rfl), (Nat.le_of_ble_eq_true rfl)⟩ rfl (ct_Mo_isClient (fun hb => ?_) (fun hb hb2 => ?_))
  · skip
    refine jj_if_ne (tgt := 19) dd_Mo_begin_10 (by decide) (fun h => absurd h (by decide)) (fun _ => ?_)
    refine jj_aload_n 0 dd_Mo_begin_13 rfl ?_
    refine jj_iconst (v := 1) dd_Mo_begin_14 rfl ?_
    refine jj_callV (ci := 7) [_] [] 0 0 dd_Mo_begin_15 cs_Mo_134 ci_Mo_134 (hS.1.1 60 _ rfl) ⟨by decide, rfl⟩ rfl (Nat.le_of_ble_eq_true rfl) ⟨(Nat.le_of_ble_eq_true rfl), (Nat.le_of_ble_eq_true rfl)⟩ ⟨(Nat.le_of_ble_eq_true rfl), (Nat.le_of_ble_eq_true rfl)⟩ rfl (cs_use (cs_Mo_fails (fun M hS => ?_)) hS)
    refine jj_iret dd_Mo_begin_18 rfl rfl ?_
    exact ⟨_, hS, hQ⟩
  · skip
    exact absurd hx (fun h => h.elim hb hb2)
set_option maxRecDepth 20000 in
theorem cs_Mo_begin {l : Launch} {g : Nat → Nat} {S : ss_} {Q : Option Value → ss_ → Prop} {c : Nat} {F : Nat → Nat → Int32} (hF : uf_ S.1 60 1 0 = F) (hc : c < 4) (hQ : be_ F c (fun r F => Q (some (.int r)) (F, S.2))) : cs_ l yy_Mo_begin bb_Mo_begin 3 (some .int) 2 0 0 g [.ref (g 60), .int (nI c)] S Q := by
  intro M hS
  refine ct_of (by decide) (Nat.le_of_ble_eq_true rfl) (fun G A => ?_)
  unfold be_ at hQ
  have loop : ∀ (n k : Nat) (F1 : Nat → Nat → Int32) (M : mm_M), k + n = 12 → rp_ g M (zr_ F1 c k, S.2) → Q (some (.int (zr_ F1 c 12 84 c))) (zr_ F1 c 12, S.2) → jj_ l yy_Mo_begin bb_Mo_begin 3 (some .int) G (mm_R 2 0 0) A (mm_ret (qs_ g Q)) 0 0 70 [(2, .int (nI (12 * c + k))), (0, .ref (g 60)), (1, .int (nI (c)))] [] M := by
    intro n
    induction n with
    | zero =>
      intro k F1 M hk hS hq
      have hk : k = 12 := by omega
      subst hk
      refine jj_iload_n 0 dd_Mo_begin_70 rfl ?_
      refine jj_bipush (v := 12) dd_Mo_begin_71 rfl ?_
      refine jj_iload_n 2 dd_Mo_begin_73 rfl ?_
      refine jj_imul dd_Mo_begin_74 ?_
      refine jj_ti (x' := nI (12 * c)) (pk_mul (12) (c)) ?_
      refine jj_bipush (v := 12) dd_Mo_begin_75 rfl ?_
      refine jj_iadd dd_Mo_begin_77 ?_
      refine jj_ti (x' := nI ((12 * c) + (12))) (nI_add (12 * c) (12)) ?_
      refine jj_icmp_ge (tgt := 115) dd_Mo_begin_78 (by decide) (fun h78 => ?_) (fun h78 => ?_)
      · skip
        refine jj_aload_n 1 dd_Mo_begin_115 rfl ?_
        refine jj_rS (n := 84) hS dd_Mo_begin_116 ff_Mo_69 rfl (fun _ => rfl) rfl ?_
        refine jj_iload_n 2 dd_Mo_begin_119 rfl ?_
        refine jj_aS hS dd_Mo_begin_120 rfl (vp_in_nI (n := c) (by omega) (by decide)) (c) (nI_clamp (n := c) (by omega)) ?_
        refine jj_iret dd_Mo_begin_121 rfl rfl ?_
        exact ⟨_, hS, hq⟩
      · exact absurd (mm_rfl _) h78
    | succ n ih =>
      intro k F1 M hk hS hq
      refine jj_iload_n 0 dd_Mo_begin_70 rfl ?_
      refine jj_bipush (v := 12) dd_Mo_begin_71 rfl ?_
      refine jj_iload_n 2 dd_Mo_begin_73 rfl ?_
      refine jj_imul dd_Mo_begin_74 ?_
      refine jj_ti (x' := nI (12 * c)) (pk_mul (12) (c)) ?_
      refine jj_bipush (v := 12) dd_Mo_begin_75 rfl ?_
      refine jj_iadd dd_Mo_begin_77 ?_
      refine jj_ti (x' := nI ((12 * c) + (12))) (nI_add (12 * c) (12)) ?_
      refine jj_icmp_ge (tgt := 115) dd_Mo_begin_78 (by decide) (fun h78 => ?_) (fun h78 => ?_)
      · exact absurd h78 (nI_ge (by omega) (by omega))
      · skip
        refine jj_aload_n 1 dd_Mo_begin_81 rfl ?_
        refine jj_rS (n := 87) hS dd_Mo_begin_82 ff_Mo_78 rfl (fun _ => rfl) rfl ?_
        refine jj_iload_n 0 dd_Mo_begin_85 rfl ?_
        refine jj_iconst (v := 0) dd_Mo_begin_86 rfl ?_
        refine jj_asS hS dd_Mo_begin_87 rfl (vp_in_nI (n := 12 * c + k) (by omega) (by decide)) (12 * c + k) (nI_clamp (n := 12 * c + k) (by omega)) (fun M hS => ?_)
        refine jj_aload_n 1 dd_Mo_begin_88 rfl ?_
        refine jj_rS (n := 88) hS dd_Mo_begin_89 ff_Mo_81 rfl (fun _ => rfl) rfl ?_
        refine jj_iload_n 0 dd_Mo_begin_92 rfl ?_
        refine jj_iconst (v := 0) dd_Mo_begin_93 rfl ?_
        refine jj_asS hS dd_Mo_begin_94 rfl (vp_in_nI (n := 12 * c + k) (by omega) (by decide)) (12 * c + k) (nI_clamp (n := 12 * c + k) (by omega)) (fun M hS => ?_)
        refine jj_aload_n 1 dd_Mo_begin_95 rfl ?_
        refine jj_rS (n := 89) hS dd_Mo_begin_96 ff_Mo_84 rfl (fun _ => rfl) rfl ?_
        refine jj_iload_n 0 dd_Mo_begin_99 rfl ?_
        refine jj_iconst (v := 0) dd_Mo_begin_100 rfl ?_
        refine jj_zsS hS dd_Mo_begin_101 rfl (vp_in_nI (n := 12 * c + k) (by omega) (by decide)) rfl (12 * c + k) (nI_clamp (n := 12 * c + k) (by omega)) (fun M hS => ?_)
        refine jj_aload_n 1 dd_Mo_begin_102 rfl ?_
        refine jj_rS (n := 90) hS dd_Mo_begin_103 ff_Mo_87 rfl (fun _ => rfl) rfl ?_
        refine jj_iload_n 0 dd_Mo_begin_106 rfl ?_
        refine jj_iconst (v := 0) dd_Mo_begin_107 rfl ?_
        refine jj_zsS hS dd_Mo_begin_108 rfl (vp_in_nI (n := 12 * c + k) (by omega) (by decide)) rfl (12 * c + k) (nI_clamp (n := 12 * c + k) (by omega)) (fun M hS => ?_)
        refine jj_iinc 0 (lv' := [(2, .int (nI (12 * c + (k + 1)))), (0, .ref (g 60)), (1, .int (nI (c)))]) dd_Mo_begin_109 rfl (nI_1 (12 * c + k)) (Nat.le_of_ble_eq_true rfl) rfl ?_
        refine jj_goto (tgt := 70) dd_Mo_begin_112 (by decide) ?_
        exact ih _ _ _ (by omega) hS hq
  refine jj_aload_n 0 dd_Mo_begin_0 rfl ?_
  refine jj_iconst (v := 0) dd_Mo_begin_1 rfl ?_
  refine jj_pS hS dd_Mo_begin_2 ⟨ff_Mo_93, rfl⟩ rfl (fun _ => rfl) ⟨rfl, rfl⟩ (fun M hS => ?_)
  rw [hF] at hS
  refine jj_aload_n 0 dd_Mo_begin_5 rfl ?_
  refine jj_iload_n 1 dd_Mo_begin_6 rfl ?_
  refine jj_callV (ci := 7) [_] [] 0 0 dd_Mo_begin_7 cs_Mo_131 ci_Mo_131 (hS.1.1 60 _ rfl) ⟨by decide, rfl⟩ rfl (Nat.le_of_ble_eq_true rfl) ⟨(Nat.le_of_ble_eq_true rfl), (Nat.le_of_ble_eq_true rfl)⟩ ⟨(Nat.le_of_ble_eq_true rfl), (Nat.le_of_ble_eq_true rfl)⟩ rfl (ct_Mo_isClient (fun hb => ?_) (fun hb hb2 => ?_))
  · skip
    exact absurd hb (nc_ (n := 3) (by decide) (by omega) (by decide))
  · skip
    refine jj_if_ne (tgt := 19) dd_Mo_begin_10 (by decide) (fun _ => ?_) (fun h => absurd h (by decide))
    refine jj_aload_n 0 dd_Mo_begin_19 rfl ?_
    refine jj_rS (n := 83) hS dd_Mo_begin_20 ff_Mo_66 rfl (fun _ => rfl) rfl ?_
    refine jj_iload_n 1 dd_Mo_begin_23 rfl ?_
    refine jj_aS hS dd_Mo_begin_24 rfl (vp_in_nI (n := c) (by omega) (by decide)) (c) (nI_clamp (n := c) (by omega)) ?_
    refine jj_if_eq (tgt := 34) dd_Mo_begin_25 (by decide) (fun h25 => ?_) (fun h25 => ?_)
    · skip
      refine jj_aload_n 0 dd_Mo_begin_34 rfl ?_
      refine jj_rS (n := 84) hS dd_Mo_begin_35 ff_Mo_69 rfl (fun _ => rfl) rfl ?_
      refine jj_iload_n 1 dd_Mo_begin_38 rfl ?_
      refine jj_aload_n 0 dd_Mo_begin_39 rfl ?_
      refine jj_callV (ci := 7) [] [_, .ref (g 84)] 0 0 dd_Mo_begin_40 cs_Mo_138 ci_Mo_138 (hS.1.1 60 _ rfl) ⟨by decide, rfl⟩ rfl (Nat.le_of_ble_eq_true rfl) ⟨(Nat.le_of_ble_eq_true rfl), (Nat.le_of_ble_eq_true rfl)⟩ ⟨(Nat.le_of_ble_eq_true rfl), (Nat.le_of_ble_eq_true rfl)⟩ rfl (cs_use (cs_Mo_handOut (fun M hS => ?_)) hS)
      refine jj_asS hS dd_Mo_begin_43 rfl (vp_in_nI (n := c) (by omega) (by decide)) (c) (nI_clamp (n := c) (by omega)) (fun M hS => ?_)
      refine jj_aload_n 0 dd_Mo_begin_44 rfl ?_
      refine jj_rS (n := 83) hS dd_Mo_begin_45 ff_Mo_66 rfl (fun _ => rfl) rfl ?_
      refine jj_iload_n 1 dd_Mo_begin_48 rfl ?_
      refine jj_iconst (v := 1) dd_Mo_begin_49 rfl ?_
      refine jj_asS hS dd_Mo_begin_50 rfl (vp_in_nI (n := c) (by omega) (by decide)) (c) (nI_clamp (n := c) (by omega)) (fun M hS => ?_)
      refine jj_aload_n 0 dd_Mo_begin_51 rfl ?_
      refine jj_rS (n := 85) hS dd_Mo_begin_52 ff_Mo_72 rfl (fun _ => rfl) rfl ?_
      refine jj_iload_n 1 dd_Mo_begin_55 rfl ?_
      refine jj_iconst (v := 0) dd_Mo_begin_56 rfl ?_
      refine jj_asS hS dd_Mo_begin_57 rfl (vp_in_nI (n := c) (by omega) (by decide)) (c) (nI_clamp (n := c) (by omega)) (fun M hS => ?_)
      refine jj_aload_n 0 dd_Mo_begin_58 rfl ?_
      refine jj_rS (n := 86) hS dd_Mo_begin_59 ff_Mo_75 rfl (fun _ => rfl) rfl ?_
      refine jj_iload_n 1 dd_Mo_begin_62 rfl ?_
      refine jj_iconst (v := 0) dd_Mo_begin_63 rfl ?_
      refine jj_zsS hS dd_Mo_begin_64 rfl (vp_in_nI (n := c) (by omega) (by decide)) rfl (c) (nI_clamp (n := c) (by omega)) (fun M hS => ?_)
      refine jj_bipush (v := 12) dd_Mo_begin_65 rfl ?_
      refine jj_iload_n 1 dd_Mo_begin_67 rfl ?_
      refine jj_imul dd_Mo_begin_68 ?_
      refine jj_ti (x' := nI (12 * c)) (pk_mul (12) (c)) ?_
      refine jj_istore_n (lv' := [(2, .int (nI (12 * c))), (0, .ref (g 60)), (1, .int (nI (c)))]) dd_Mo_begin_69 (Nat.le_of_ble_eq_true rfl) rfl ?_
      rw [if_pos h25] at hQ
      exact loop 12 0 _ _ (by omega) hS hQ
    · skip
      refine jj_aload_n 0 dd_Mo_begin_28 rfl ?_
      refine jj_iconst (v := 2) dd_Mo_begin_29 rfl ?_
      refine jj_callV (ci := 7) [_] [] 0 0 dd_Mo_begin_30 cs_Mo_134 ci_Mo_134 (hS.1.1 60 _ rfl) ⟨by decide, rfl⟩ rfl (Nat.le_of_ble_eq_true rfl) ⟨(Nat.le_of_ble_eq_true rfl), (Nat.le_of_ble_eq_true rfl)⟩ ⟨(Nat.le_of_ble_eq_true rfl), (Nat.le_of_ble_eq_true rfl)⟩ rfl (cs_use (cs_Mo_fails (fun M hS => ?_)) hS)
      refine jj_iret dd_Mo_begin_33 rfl rfl ?_
      rw [if_neg h25] at hQ
      exact ⟨_, hS, hQ⟩
set_option maxRecDepth 20000 in
theorem cs_Mo_change {l : Launch} {g : Nat → Nat} {S : ss_} {Q : Option Value → ss_ → Prop} {c i : Nat} {x y : Int32} {F : Nat → Nat → Int32} (hF : uf_ S.1 60 1 0 = F) (hc : c < 4) (hi : i < 12) (hQ : Q none (ch_F F c i x y, S.2)) : cs_ l yy_Mo_change bb_Mo_change 5 none 2 0 0 g [.ref (g 60), .int (nI c), .int (nI i), .int x, .int y] S Q := by
  intro M hS
  refine ct_of (by decide) (Nat.le_of_ble_eq_true rfl) (fun G A => ?_)
  unfold ch_F at hQ
  refine jj_aload_n 0 dd_Mo_change_0 rfl ?_
  refine jj_iconst (v := 0) dd_Mo_change_1 rfl ?_
  refine jj_pS hS dd_Mo_change_2 ⟨ff_Mo_93, rfl⟩ rfl (fun _ => rfl) ⟨rfl, rfl⟩ (fun M hS => ?_)
  rw [hF] at hS
  refine jj_aload_n 0 dd_Mo_change_5 rfl ?_
  refine jj_iload_n 1 dd_Mo_change_6 rfl ?_
  refine jj_callV (ci := 7) [_] [] 0 0 dd_Mo_change_7 cs_Mo_131 ci_Mo_131 (hS.1.1 60 _ rfl) ⟨by decide, rfl⟩ rfl (Nat.le_of_ble_eq_true rfl) ⟨(Nat.le_of_ble_eq_true rfl), (Nat.le_of_ble_eq_true rfl)⟩ ⟨(Nat.le_of_ble_eq_true rfl), (Nat.le_of_ble_eq_true rfl)⟩ rfl (ct_Mo_isClient (fun hb => ?_) (fun hb hb2 => ?_))
  · skip
    exact absurd hb (nc_ (n := 3) (by decide) (by omega) (by decide))
  · skip
    refine jj_if_eq (tgt := 20) dd_Mo_change_10 (by decide) (fun h => absurd h (by decide)) (fun _ => ?_)
    refine jj_iload_n 2 dd_Mo_change_13 rfl ?_
    refine jj_callS [_] [] 0 0 dd_Mo_change_14 cs_Mo_142 ci_Mo_142 rfl (Nat.le_of_ble_eq_true rfl) ⟨(Nat.le_of_ble_eq_true rfl), (Nat.le_of_ble_eq_true rfl)⟩ ⟨(Nat.le_of_ble_eq_true rfl), (Nat.le_of_ble_eq_true rfl)⟩ rfl (ct_Mo_isCell (fun hb => ?_) (fun hb hb2 => ?_))
    · skip
      exact absurd hb (nc_ (n := 11) (by decide) (by omega) (by decide))
    · skip
      refine jj_if_ne (tgt := 28) dd_Mo_change_17 (by decide) (fun _ => ?_) (fun h => absurd h (by decide))
      refine jj_aload_n 0 dd_Mo_change_28 rfl ?_
      refine jj_rS (n := 83) hS dd_Mo_change_29 ff_Mo_66 rfl (fun _ => rfl) rfl ?_
      refine jj_iload_n 1 dd_Mo_change_32 rfl ?_
      refine jj_aS hS dd_Mo_change_33 rfl (vp_in_nI (n := c) (by omega) (by decide)) (c) (nI_clamp (n := c) (by omega)) ?_
      refine jj_iconst (v := 1) dd_Mo_change_34 rfl ?_
      refine jj_icmp_eq (tgt := 46) dd_Mo_change_35 (by decide) (fun h35 => ?_) (fun h35 => ?_)
      · skip
        refine jj_aload_n 0 dd_Mo_change_46 rfl ?_
        refine jj_rS (n := 87) hS dd_Mo_change_47 ff_Mo_78 rfl (fun _ => rfl) rfl ?_
        refine jj_bipush (v := 12) dd_Mo_change_50 rfl ?_
        refine jj_iload_n 1 dd_Mo_change_52 rfl ?_
        refine jj_imul dd_Mo_change_53 ?_
        refine jj_ti (x' := nI (12 * c)) (pk_mul (12) (c)) ?_
        refine jj_iload_n 2 dd_Mo_change_54 rfl ?_
        refine jj_iadd dd_Mo_change_55 ?_
        refine jj_ti (x' := nI ((12 * c) + (i))) (nI_add (12 * c) (i)) ?_
        refine jj_iload_n 3 dd_Mo_change_56 rfl ?_
        refine jj_asS hS dd_Mo_change_57 rfl (vp_in_nI (n := (12 * c) + (i)) (by omega) (by decide)) ((12 * c) + (i)) (nI_clamp (n := (12 * c) + (i)) (by omega)) (fun M hS => ?_)
        refine jj_aload_n 0 dd_Mo_change_58 rfl ?_
        refine jj_rS (n := 88) hS dd_Mo_change_59 ff_Mo_81 rfl (fun _ => rfl) rfl ?_
        refine jj_bipush (v := 12) dd_Mo_change_62 rfl ?_
        refine jj_iload_n 1 dd_Mo_change_64 rfl ?_
        refine jj_imul dd_Mo_change_65 ?_
        refine jj_ti (x' := nI (12 * c)) (pk_mul (12) (c)) ?_
        refine jj_iload_n 2 dd_Mo_change_66 rfl ?_
        refine jj_iadd dd_Mo_change_67 ?_
        refine jj_ti (x' := nI ((12 * c) + (i))) (nI_add (12 * c) (i)) ?_
        refine jj_iload 4 dd_Mo_change_68 rfl ?_
        refine jj_asS hS dd_Mo_change_70 rfl (vp_in_nI (n := (12 * c) + (i)) (by omega) (by decide)) ((12 * c) + (i)) (nI_clamp (n := (12 * c) + (i)) (by omega)) (fun M hS => ?_)
        refine jj_vret dd_Mo_change_71 rfl ?_
        rw [if_pos h35] at hQ
        exact ⟨_, hS, hQ⟩
      · skip
        refine jj_aload_n 0 dd_Mo_change_38 rfl ?_
        refine jj_iconst (v := 2) dd_Mo_change_39 rfl ?_
        refine jj_pS hS dd_Mo_change_40 ⟨ff_Mo_93, rfl⟩ rfl (fun _ => rfl) ⟨rfl, rfl⟩ (fun M hS => ?_)
        refine jj_goto (tgt := 71) dd_Mo_change_43 (by decide) ?_
        refine jj_vret dd_Mo_change_71 rfl ?_
        rw [if_neg h35] at hQ
        exact ⟨_, hS, hQ⟩
set_option maxRecDepth 20000 in
theorem cs_Mo_change0 {l : Launch} {g : Nat → Nat} {S : ss_} {Q : Option Value → ss_ → Prop} {u v x y : Int32} {F : Nat → Nat → Int32} (hF : uf_ S.1 60 1 0 = F) (hx : (u < 0 ∨ 3 < u) ∨ (v < 0 ∨ 11 < v)) (hQ : Q none (uf_ F 60 1 1, S.2)) : cs_ l yy_Mo_change bb_Mo_change 5 none 2 0 0 g [.ref (g 60), .int u, .int v, .int x, .int y] S Q := by
  intro M hS
  refine ct_of (by decide) (Nat.le_of_ble_eq_true rfl) (fun G A => ?_)
  refine jj_aload_n 0 dd_Mo_change_0 rfl ?_
  refine jj_iconst (v := 0) dd_Mo_change_1 rfl ?_
  refine jj_pS hS dd_Mo_change_2 ⟨ff_Mo_93, rfl⟩ rfl (fun _ => rfl) ⟨rfl, rfl⟩ (fun M hS => ?_)
  rw [hF] at hS
  refine jj_aload_n 0 dd_Mo_change_5 rfl ?_
  refine jj_iload_n 1 dd_Mo_change_6 rfl ?_
  refine jj_callV (ci := 7) [_] [] 0 0 dd_Mo_change_7 cs_Mo_131 ci_Mo_131 (hS.1.1 60 _ rfl) ⟨by decide, rfl⟩ rfl (Nat.le_of_ble_eq_true rfl) ⟨(Nat.le_of_ble_eq_true rfl), (Nat.le_of_ble_eq_true rfl)⟩ ⟨(Nat.le_of_ble_eq_true rfl), (Nat.le_of_ble_eq_true rfl)⟩ rfl (ct_Mo_isClient (fun hb => ?_) (fun hb hb2 => ?_))
  · skip
    refine jj_if_eq (tgt := 20) dd_Mo_change_10 (by decide) (fun _ => ?_) (fun h => absurd h (by decide))
    refine jj_aload_n 0 dd_Mo_change_20 rfl ?_
    refine jj_iconst (v := 1) dd_Mo_change_21 rfl ?_
    refine jj_pS hS dd_Mo_change_22 ⟨ff_Mo_93, rfl⟩ rfl (fun _ => rfl) ⟨rfl, rfl⟩ (fun M hS => ?_)
    refine jj_goto (tgt := 71) dd_Mo_change_25 (by decide) ?_
    refine jj_vret dd_Mo_change_71 rfl ?_
    exact ⟨_, hS, hQ⟩
  · skip
    have hv := hx.resolve_left (fun h => h.elim hb hb2)
    refine jj_if_eq (tgt := 20) dd_Mo_change_10 (by decide) (fun h => absurd h (by decide)) (fun _ => ?_)
    refine jj_iload_n 2 dd_Mo_change_13 rfl ?_
    refine jj_callS [_] [] 0 0 dd_Mo_change_14 cs_Mo_142 ci_Mo_142 rfl (Nat.le_of_ble_eq_true rfl) ⟨(Nat.le_of_ble_eq_true rfl), (Nat.le_of_ble_eq_true rfl)⟩ ⟨(Nat.le_of_ble_eq_true rfl), (Nat.le_of_ble_eq_true rfl)⟩ rfl (ct_Mo_isCell (fun hb => ?_) (fun hb hb2 => ?_))
    · skip
      refine jj_if_ne (tgt := 28) dd_Mo_change_17 (by decide) (fun h => absurd h (by decide)) (fun _ => ?_)
      refine jj_aload_n 0 dd_Mo_change_20 rfl ?_
      refine jj_iconst (v := 1) dd_Mo_change_21 rfl ?_
      refine jj_pS hS dd_Mo_change_22 ⟨ff_Mo_93, rfl⟩ rfl (fun _ => rfl) ⟨rfl, rfl⟩ (fun M hS => ?_)
      refine jj_goto (tgt := 71) dd_Mo_change_25 (by decide) ?_
      refine jj_vret dd_Mo_change_71 rfl ?_
      exact ⟨_, hS, hQ⟩
    · skip
      exact absurd hv (fun h => h.elim hb hb2)
set_option maxRecDepth 20000 in
theorem cs_Mo_set {l : Launch} {g : Nat → Nat} {S : ss_} {Q : Option Value → ss_ → Prop} {c i : Nat} {y : Int32} {F : Nat → Nat → Int32} (hF : uf_ S.1 60 1 0 = F) (hc : c < 4) (hi : i < 12) (hQ : Q none (ch_F F c i 1 y, S.2)) : cs_ l yy_Mo_set bb_Mo_set 4 none 3 0 0 g [.ref (g 60), .int (nI c), .int (nI i), .int y] S Q := by
  intro M hS
  refine ct_of (by decide) (Nat.le_of_ble_eq_true rfl) (fun G A => ?_)
  refine jj_aload_n 0 dd_Mo_set_0 rfl ?_
  refine jj_iload_n 1 dd_Mo_set_1 rfl ?_
  refine jj_iload_n 2 dd_Mo_set_2 rfl ?_
  refine jj_iconst (v := 1) dd_Mo_set_3 rfl ?_
  refine jj_iload_n 3 dd_Mo_set_4 rfl ?_
  refine jj_callV (ci := 7) [_, _, _, _] [] 0 0 dd_Mo_set_5 cs_Mo_151 ci_Mo_151 (hS.1.1 60 _ rfl) ⟨by decide, rfl⟩ rfl (Nat.le_of_ble_eq_true rfl) ⟨(Nat.le_of_ble_eq_true rfl), (Nat.le_of_ble_eq_true rfl)⟩ ⟨(Nat.le_of_ble_eq_true rfl), (Nat.le_of_ble_eq_true rfl)⟩ rfl (cs_use (cs_Mo_change (c := c) (i := i) hF hc hi (fun M hS => ?_)) hS)
  refine jj_vret dd_Mo_set_8 rfl ?_
  exact ⟨_, hS, hQ⟩
set_option maxRecDepth 20000 in
theorem cs_Mo_set0 {l : Launch} {g : Nat → Nat} {S : ss_} {Q : Option Value → ss_ → Prop} {u v y : Int32} {F : Nat → Nat → Int32} (hF : uf_ S.1 60 1 0 = F) (hx : (u < 0 ∨ 3 < u) ∨ (v < 0 ∨ 11 < v)) (hQ : Q none (uf_ F 60 1 1, S.2)) : cs_ l yy_Mo_set bb_Mo_set 4 none 3 0 0 g [.ref (g 60), .int u, .int v, .int y] S Q := by
  intro M hS
  refine ct_of (by decide) (Nat.le_of_ble_eq_true rfl) (fun G A => ?_)
  refine jj_aload_n 0 dd_Mo_set_0 rfl ?_
  refine jj_iload_n 1 dd_Mo_set_1 rfl ?_
  refine jj_iload_n 2 dd_Mo_set_2 rfl ?_
  refine jj_iconst (v := 1) dd_Mo_set_3 rfl ?_
  refine jj_iload_n 3 dd_Mo_set_4 rfl ?_
  refine jj_callV (ci := 7) [_, _, _, _] [] 0 0 dd_Mo_set_5 cs_Mo_151 ci_Mo_151 (hS.1.1 60 _ rfl) ⟨by decide, rfl⟩ rfl (Nat.le_of_ble_eq_true rfl) ⟨(Nat.le_of_ble_eq_true rfl), (Nat.le_of_ble_eq_true rfl)⟩ ⟨(Nat.le_of_ble_eq_true rfl), (Nat.le_of_ble_eq_true rfl)⟩ rfl (cs_use (cs_Mo_change0 hF hx (fun M hS => ?_)) hS)
  refine jj_vret dd_Mo_set_8 rfl ?_
  exact ⟨_, hS, hQ⟩
set_option maxRecDepth 20000 in
theorem cs_Mo_erase {l : Launch} {g : Nat → Nat} {S : ss_} {Q : Option Value → ss_ → Prop} {c i : Nat} {y : Int32} {F : Nat → Nat → Int32} (hF : uf_ S.1 60 1 0 = F) (hc : c < 4) (hi : i < 12) (hQ : Q none (ch_F F c i 2 0, S.2)) : cs_ l yy_Mo_erase bb_Mo_erase 3 none 3 0 0 g [.ref (g 60), .int (nI c), .int (nI i)] S Q := by
  intro M hS
  refine ct_of (by decide) (Nat.le_of_ble_eq_true rfl) (fun G A => ?_)
  refine jj_aload_n 0 dd_Mo_erase_0 rfl ?_
  refine jj_iload_n 1 dd_Mo_erase_1 rfl ?_
  refine jj_iload_n 2 dd_Mo_erase_2 rfl ?_
  refine jj_iconst (v := 2) dd_Mo_erase_3 rfl ?_
  refine jj_iconst (v := 0) dd_Mo_erase_4 rfl ?_
  refine jj_callV (ci := 7) [_, _, _, _] [] 0 0 dd_Mo_erase_5 cs_Mo_151 ci_Mo_151 (hS.1.1 60 _ rfl) ⟨by decide, rfl⟩ rfl (Nat.le_of_ble_eq_true rfl) ⟨(Nat.le_of_ble_eq_true rfl), (Nat.le_of_ble_eq_true rfl)⟩ ⟨(Nat.le_of_ble_eq_true rfl), (Nat.le_of_ble_eq_true rfl)⟩ rfl (cs_use (cs_Mo_change (c := c) (i := i) hF hc hi (fun M hS => ?_)) hS)
  refine jj_vret dd_Mo_erase_8 rfl ?_
  exact ⟨_, hS, hQ⟩
set_option maxRecDepth 20000 in
theorem cs_Mo_erase0 {l : Launch} {g : Nat → Nat} {S : ss_} {Q : Option Value → ss_ → Prop} {u v y : Int32} {F : Nat → Nat → Int32} (hF : uf_ S.1 60 1 0 = F) (hx : (u < 0 ∨ 3 < u) ∨ (v < 0 ∨ 11 < v)) (hQ : Q none (uf_ F 60 1 1, S.2)) : cs_ l yy_Mo_erase bb_Mo_erase 3 none 3 0 0 g [.ref (g 60), .int u, .int v] S Q := by
  intro M hS
  refine ct_of (by decide) (Nat.le_of_ble_eq_true rfl) (fun G A => ?_)
  refine jj_aload_n 0 dd_Mo_erase_0 rfl ?_
  refine jj_iload_n 1 dd_Mo_erase_1 rfl ?_
  refine jj_iload_n 2 dd_Mo_erase_2 rfl ?_
  refine jj_iconst (v := 2) dd_Mo_erase_3 rfl ?_
  refine jj_iconst (v := 0) dd_Mo_erase_4 rfl ?_
  refine jj_callV (ci := 7) [_, _, _, _] [] 0 0 dd_Mo_erase_5 cs_Mo_151 ci_Mo_151 (hS.1.1 60 _ rfl) ⟨by decide, rfl⟩ rfl (Nat.le_of_ble_eq_true rfl) ⟨(Nat.le_of_ble_eq_true rfl), (Nat.le_of_ble_eq_true rfl)⟩ ⟨(Nat.le_of_ble_eq_true rfl), (Nat.le_of_ble_eq_true rfl)⟩ rfl (cs_use (cs_Mo_change0 hF hx (fun M hS => ?_)) hS)
  refine jj_vret dd_Mo_erase_8 rfl ?_
  exact ⟨_, hS, hQ⟩
theorem la_gx (F : Nat → Nat → Int32) (c x : Int32) : ∀ n k z, k + n ≤ 1540 → ix_ z 1540 → ix_ (la_go F c x n k z) 1540 := by
  intro n
  induction n with
  | zero => intro k z _ h; exact h
  | succ n ih =>
    intro k z hk h
    unfold la_go
    refine ih (k + 1) _ (by omega) ?_
    split
    · exact Or.inr (vp_in_nI (by omega) (by decide))
    · exact h
theorem la_ix (F : Nat → Nat → Int32) (c x : Int32) (h : rec_ F ≤ 1540) : ix_ (la_ F c x) 1540 := la_gx F c x (rec_ F) 0 (-1) (by omega) (Or.inl (by decide))
set_option maxRecDepth 20000 in
theorem cs_Mo_get {l : Launch} {g : Nat → Nat} {S : ss_} {Q : Option Value → ss_ → Prop} {c i : Nat} {F : Nat → Nat → Int32} (hF : uf_ S.1 60 1 0 = F) (hc : c < 4) (hi : i < 12) (hok : ok_ F) (hr : F 60 11 = nI (rec_ F)) (hr2 : rec_ F < 1538) (hQ : ge_ F c i (fun r F => Q (some (.int r)) (F, S.2))) : cs_ l yy_Mo_get bb_Mo_get 5 (some .int) 3 0 0 g [.ref (g 60), .int (nI c), .int (nI i)] S Q := by
  intro M hS
  refine ct_of (by decide) (Nat.le_of_ble_eq_true rfl) (fun G A => ?_)
  unfold ge_ gl_ at hQ
  refine jj_aload_n 0 dd_Mo_get_0 rfl ?_
  refine jj_iconst (v := 0) dd_Mo_get_1 rfl ?_
  refine jj_pS hS dd_Mo_get_2 ⟨ff_Mo_93, rfl⟩ rfl (fun _ => rfl) ⟨rfl, rfl⟩ (fun M hS => ?_)
  rw [hF] at hS
  refine jj_aload_n 0 dd_Mo_get_5 rfl ?_
  refine jj_iload_n 1 dd_Mo_get_6 rfl ?_
  refine jj_callV (ci := 7) [_] [] 0 0 dd_Mo_get_7 cs_Mo_131 ci_Mo_131 (hS.1.1 60 _ rfl) ⟨by decide, rfl⟩ rfl (Nat.le_of_ble_eq_true rfl) ⟨(Nat.le_of_ble_eq_true rfl), (Nat.le_of_ble_eq_true rfl)⟩ ⟨(Nat.le_of_ble_eq_true rfl), (Nat.le_of_ble_eq_true rfl)⟩ rfl (ct_Mo_isClient (fun hb => ?_) (fun hb hb2 => ?_))
  · skip
    exact absurd hb (nc_ (n := 3) (by decide) (by omega) (by decide))
  · skip
    refine jj_if_eq (tgt := 20) dd_Mo_get_10 (by decide) (fun h => absurd h (by decide)) (fun _ => ?_)
    refine jj_iload_n 2 dd_Mo_get_13 rfl ?_
    refine jj_callS [_] [] 0 0 dd_Mo_get_14 cs_Mo_142 ci_Mo_142 rfl (Nat.le_of_ble_eq_true rfl) ⟨(Nat.le_of_ble_eq_true rfl), (Nat.le_of_ble_eq_true rfl)⟩ ⟨(Nat.le_of_ble_eq_true rfl), (Nat.le_of_ble_eq_true rfl)⟩ rfl (ct_Mo_isCell (fun hb => ?_) (fun hb hb2 => ?_))
    · skip
      exact absurd hb (nc_ (n := 11) (by decide) (by omega) (by decide))
    · skip
      refine jj_if_ne (tgt := 26) dd_Mo_get_17 (by decide) (fun _ => ?_) (fun h => absurd h (by decide))
      refine jj_aload_n 0 dd_Mo_get_26 rfl ?_
      refine jj_rS (n := 83) hS dd_Mo_get_27 ff_Mo_66 rfl (fun _ => rfl) rfl ?_
      refine jj_iload_n 1 dd_Mo_get_30 rfl ?_
      refine jj_aS hS dd_Mo_get_31 rfl (vp_in_nI (n := c) (by omega) (by decide)) (c) (nI_clamp (n := c) (by omega)) ?_
      refine jj_iconst (v := 1) dd_Mo_get_32 rfl ?_
      refine jj_icmp_eq (tgt := 42) dd_Mo_get_33 (by decide) (fun h33 => ?_) (fun h33 => ?_)
      · skip
        refine jj_aload_n 0 dd_Mo_get_42 rfl ?_
        refine jj_rS (n := 87) hS dd_Mo_get_43 ff_Mo_78 rfl (fun _ => rfl) rfl ?_
        refine jj_bipush (v := 12) dd_Mo_get_46 rfl ?_
        refine jj_iload_n 1 dd_Mo_get_48 rfl ?_
        refine jj_imul dd_Mo_get_49 ?_
        refine jj_ti (x' := nI (12 * c)) (pk_mul (12) (c)) ?_
        refine jj_iload_n 2 dd_Mo_get_50 rfl ?_
        refine jj_iadd dd_Mo_get_51 ?_
        refine jj_ti (x' := nI ((12 * c) + (i))) (nI_add (12 * c) (i)) ?_
        refine jj_aS hS dd_Mo_get_52 rfl (vp_in_nI (n := (12 * c) + (i)) (by omega) (by decide)) ((12 * c) + (i)) (nI_clamp (n := (12 * c) + (i)) (by omega)) ?_
        refine jj_istore_n (lv' := [(3, .int _), (0, .ref (g 60)), (1, .int (nI (c))), (2, .int (nI (i)))]) dd_Mo_get_53 (Nat.le_of_ble_eq_true rfl) rfl ?_
        refine jj_iload_n 0 dd_Mo_get_54 rfl ?_
        refine jj_if_le (tgt := 83) dd_Mo_get_55 (by decide) (fun h55 => ?_) (fun h55 => ?_)
        · skip
          refine jj_aload_n 1 dd_Mo_get_83 rfl ?_
          refine jj_rS (n := 77) hS dd_Mo_get_84 ff_Mo_47 rfl (fun _ => rfl) rfl ?_
          refine jj_iload_n 3 dd_Mo_get_87 rfl ?_
          refine jj_iconst (v := 4) dd_Mo_get_88 rfl ?_
          refine jj_idiv dd_Mo_get_89 (by decide) ?_
          refine jj_ti (x' := nI ((i) / 4)) (pk_div (a := i) (d := 4) (by omega) (by decide) (by decide)) ?_
          refine jj_zS hS dd_Mo_get_90 rfl (vp_in_nI (n := (i) / 4) (by omega) (by decide)) ((i) / 4) (nI_clamp (n := (i) / 4) (by omega)) ?_
          refine jj_if_eq (tgt := 100) dd_Mo_get_91 (by decide) (fun h91 => ?_) (fun h91 => ?_)
          · skip
            refine jj_aload_n 1 dd_Mo_get_100 rfl ?_
            refine jj_rS (n := 78) hS dd_Mo_get_101 ff_Mo_51 rfl (fun _ => rfl) rfl ?_
            refine jj_iload_n 3 dd_Mo_get_104 rfl ?_
            refine jj_iconst (v := 4) dd_Mo_get_105 rfl ?_
            refine jj_idiv dd_Mo_get_106 (by decide) ?_
            refine jj_ti (x' := nI ((i) / 4)) (pk_div (a := i) (d := 4) (by omega) (by decide) (by decide)) ?_
            refine jj_aS hS dd_Mo_get_107 rfl (vp_in_nI (n := (i) / 4) (by omega) (by decide)) ((i) / 4) (nI_clamp (n := (i) / 4) (by omega)) ?_
            refine jj_aload_n 1 dd_Mo_get_108 rfl ?_
            refine jj_rS (n := 84) hS dd_Mo_get_109 ff_Mo_69 rfl (fun _ => rfl) rfl ?_
            refine jj_iload_n 2 dd_Mo_get_112 rfl ?_
            refine jj_aS hS dd_Mo_get_113 rfl (vp_in_nI (n := c) (by omega) (by decide)) (c) (nI_clamp (n := c) (by omega)) ?_
            refine jj_icmp_le (tgt := 123) dd_Mo_get_114 (by decide) (fun h114 => ?_) (fun h114 => ?_)
            · skip
              refine jj_aload_n 1 dd_Mo_get_123 rfl ?_
              refine jj_rS (n := 65) hS dd_Mo_get_124 ff_Mo_13 rfl (fun _ => rfl) rfl ?_
              refine jj_iload_n 3 dd_Mo_get_127 rfl ?_
              refine jj_aS hS dd_Mo_get_128 rfl (vp_in_nI (n := i) (by omega) (by decide)) (i) (nI_clamp (n := i) (by omega)) ?_
              refine jj_if_le (tgt := 171) dd_Mo_get_129 (by decide) (fun h129 => ?_) (fun h129 => ?_)
              · skip
                refine jj_aload_n 1 dd_Mo_get_171 rfl ?_
                refine jj_iload_n 3 dd_Mo_get_172 rfl ?_
                refine jj_aload_n 1 dd_Mo_get_173 rfl ?_
                refine jj_rS (n := 84) hS dd_Mo_get_174 ff_Mo_69 rfl (fun _ => rfl) rfl ?_
                refine jj_iload_n 2 dd_Mo_get_177 rfl ?_
                refine jj_aS hS dd_Mo_get_178 rfl (vp_in_nI (n := c) (by omega) (by decide)) (c) (nI_clamp (n := c) (by omega)) ?_
                refine jj_callV (ci := 7) [_, _] [] 0 0 dd_Mo_get_179 cs_Mo_148 ci_Mo_148 (hS.1.1 60 _ rfl) ⟨by decide, rfl⟩ rfl (Nat.le_of_ble_eq_true rfl) ⟨(Nat.le_of_ble_eq_true rfl), (Nat.le_of_ble_eq_true rfl)⟩ ⟨(Nat.le_of_ble_eq_true rfl), (Nat.le_of_ble_eq_true rfl)⟩ rfl (cs_use (cs_Mo_latest (by first | exact hr | exact hr3) (by first | (show rec_ F ≤ 1540; omega) | (show rec_ F1 ≤ 1540; omega)) (fun M hS => ?_)) hS)
                refine jj_istore (lv' := [(4, .int _), (3, .int _), (0, .ref (g 60)), (1, .int (nI (c))), (2, .int (nI (i)))]) dd_Mo_get_182 (Nat.le_of_ble_eq_true rfl) rfl ?_
                refine jj_iload 0 dd_Mo_get_184 rfl ?_
                refine jj_if_lt (tgt := 200) dd_Mo_get_186 (by decide) (fun h186 => ?_) (fun h186 => ?_)
                · skip
                  refine jj_aload_n 2 dd_Mo_get_200 rfl ?_
                  refine jj_iconst (v := 3) dd_Mo_get_201 rfl ?_
                  refine jj_callV (ci := 7) [_] [] 0 0 dd_Mo_get_202 cs_Mo_134 ci_Mo_134 (hS.1.1 60 _ rfl) ⟨by decide, rfl⟩ rfl (Nat.le_of_ble_eq_true rfl) ⟨(Nat.le_of_ble_eq_true rfl), (Nat.le_of_ble_eq_true rfl)⟩ ⟨(Nat.le_of_ble_eq_true rfl), (Nat.le_of_ble_eq_true rfl)⟩ rfl (cs_use (cs_Mo_fails (fun M hS => ?_)) hS)
                  refine jj_goto (tgt := 215) dd_Mo_get_205 (by decide) ?_
                  refine jj_iret dd_Mo_get_215 rfl rfl ?_
                  rw [if_pos h33, if_pos h55, if_pos h91, if_pos h114, if_pos h129, if_pos h186] at hQ
                  exact ⟨_, hS, hQ⟩
                · skip
                  refine jj_aload_n 2 dd_Mo_get_189 rfl ?_
                  refine jj_rS (n := 75) hS dd_Mo_get_190 ff_Mo_41 rfl (fun _ => rfl) rfl ?_
                  refine jj_iload 0 dd_Mo_get_193 rfl ?_
                  refine jj_aS hS dd_Mo_get_195 rfl (ix_in (la_ix _ _ _ (by first | (show rec_ F ≤ 1540; omega) | (show rec_ F1 ≤ 1540; omega))) h186) _ rfl ?_
                  refine jj_iconst (v := 2) dd_Mo_get_196 rfl ?_
                  refine jj_icmp_ne (tgt := 208) dd_Mo_get_197 (by decide) (fun h197 => ?_) (fun h197 => ?_)
                  · skip
                    refine jj_aload_n 2 dd_Mo_get_208 rfl ?_
                    refine jj_rS (n := 76) hS dd_Mo_get_209 ff_Mo_44 rfl (fun _ => rfl) rfl ?_
                    refine jj_iload 0 dd_Mo_get_212 rfl ?_
                    refine jj_aS hS dd_Mo_get_214 rfl (ix_in (la_ix _ _ _ (by first | (show rec_ F ≤ 1540; omega) | (show rec_ F1 ≤ 1540; omega))) h186) _ rfl ?_
                    refine jj_iret dd_Mo_get_215 rfl rfl ?_
                    rw [if_pos h33, if_pos h55, if_pos h91, if_pos h114, if_pos h129, if_neg h186, if_neg h197] at hQ
                    exact ⟨_, hS, hQ⟩
                  · skip
                    refine jj_aload_n 2 dd_Mo_get_200 rfl ?_
                    refine jj_iconst (v := 3) dd_Mo_get_201 rfl ?_
                    refine jj_callV (ci := 7) [_] [] 0 0 dd_Mo_get_202 cs_Mo_134 ci_Mo_134 (hS.1.1 60 _ rfl) ⟨by decide, rfl⟩ rfl (Nat.le_of_ble_eq_true rfl) ⟨(Nat.le_of_ble_eq_true rfl), (Nat.le_of_ble_eq_true rfl)⟩ ⟨(Nat.le_of_ble_eq_true rfl), (Nat.le_of_ble_eq_true rfl)⟩ rfl (cs_use (cs_Mo_fails (fun M hS => ?_)) hS)
                    refine jj_goto (tgt := 215) dd_Mo_get_205 (by decide) ?_
                    refine jj_iret dd_Mo_get_215 rfl rfl ?_
                    rw [if_pos h33, if_pos h55, if_pos h91, if_pos h114, if_pos h129, if_neg h186, if_pos h197] at hQ
                    exact ⟨_, hS, hQ⟩
              · skip
                refine jj_aload_n 1 dd_Mo_get_132 rfl ?_
                refine jj_rS (n := 65) hS dd_Mo_get_133 ff_Mo_13 rfl (fun _ => rfl) rfl ?_
                refine jj_iload_n 3 dd_Mo_get_136 rfl ?_
                refine jj_aS hS dd_Mo_get_137 rfl (vp_in_nI (n := i) (by omega) (by decide)) (i) (nI_clamp (n := i) (by omega)) ?_
                refine jj_aload_n 1 dd_Mo_get_138 rfl ?_
                refine jj_rS (n := 84) hS dd_Mo_get_139 ff_Mo_69 rfl (fun _ => rfl) rfl ?_
                refine jj_iload_n 2 dd_Mo_get_142 rfl ?_
                refine jj_aS hS dd_Mo_get_143 rfl (vp_in_nI (n := c) (by omega) (by decide)) (c) (nI_clamp (n := c) (by omega)) ?_
                refine jj_icmp_ge (tgt := 171) dd_Mo_get_144 (by decide) (fun h144 => ?_) (fun h144 => ?_)
                · skip
                  refine jj_aload_n 1 dd_Mo_get_171 rfl ?_
                  refine jj_iload_n 3 dd_Mo_get_172 rfl ?_
                  refine jj_aload_n 1 dd_Mo_get_173 rfl ?_
                  refine jj_rS (n := 84) hS dd_Mo_get_174 ff_Mo_69 rfl (fun _ => rfl) rfl ?_
                  refine jj_iload_n 2 dd_Mo_get_177 rfl ?_
                  refine jj_aS hS dd_Mo_get_178 rfl (vp_in_nI (n := c) (by omega) (by decide)) (c) (nI_clamp (n := c) (by omega)) ?_
                  refine jj_callV (ci := 7) [_, _] [] 0 0 dd_Mo_get_179 cs_Mo_148 ci_Mo_148 (hS.1.1 60 _ rfl) ⟨by decide, rfl⟩ rfl (Nat.le_of_ble_eq_true rfl) ⟨(Nat.le_of_ble_eq_true rfl), (Nat.le_of_ble_eq_true rfl)⟩ ⟨(Nat.le_of_ble_eq_true rfl), (Nat.le_of_ble_eq_true rfl)⟩ rfl (cs_use (cs_Mo_latest (by first | exact hr | exact hr3) (by first | (show rec_ F ≤ 1540; omega) | (show rec_ F1 ≤ 1540; omega)) (fun M hS => ?_)) hS)
                  refine jj_istore (lv' := [(4, .int _), (3, .int _), (0, .ref (g 60)), (1, .int (nI (c))), (2, .int (nI (i)))]) dd_Mo_get_182 (Nat.le_of_ble_eq_true rfl) rfl ?_
                  refine jj_iload 0 dd_Mo_get_184 rfl ?_
                  refine jj_if_lt (tgt := 200) dd_Mo_get_186 (by decide) (fun h186 => ?_) (fun h186 => ?_)
                  · skip
                    refine jj_aload_n 2 dd_Mo_get_200 rfl ?_
                    refine jj_iconst (v := 3) dd_Mo_get_201 rfl ?_
                    refine jj_callV (ci := 7) [_] [] 0 0 dd_Mo_get_202 cs_Mo_134 ci_Mo_134 (hS.1.1 60 _ rfl) ⟨by decide, rfl⟩ rfl (Nat.le_of_ble_eq_true rfl) ⟨(Nat.le_of_ble_eq_true rfl), (Nat.le_of_ble_eq_true rfl)⟩ ⟨(Nat.le_of_ble_eq_true rfl), (Nat.le_of_ble_eq_true rfl)⟩ rfl (cs_use (cs_Mo_fails (fun M hS => ?_)) hS)
                    refine jj_goto (tgt := 215) dd_Mo_get_205 (by decide) ?_
                    refine jj_iret dd_Mo_get_215 rfl rfl ?_
                    rw [if_pos h33, if_pos h55, if_pos h91, if_pos h114, if_neg h129, if_pos h144, if_pos h186] at hQ
                    exact ⟨_, hS, hQ⟩
                  · skip
                    refine jj_aload_n 2 dd_Mo_get_189 rfl ?_
                    refine jj_rS (n := 75) hS dd_Mo_get_190 ff_Mo_41 rfl (fun _ => rfl) rfl ?_
                    refine jj_iload 0 dd_Mo_get_193 rfl ?_
                    refine jj_aS hS dd_Mo_get_195 rfl (ix_in (la_ix _ _ _ (by first | (show rec_ F ≤ 1540; omega) | (show rec_ F1 ≤ 1540; omega))) h186) _ rfl ?_
                    refine jj_iconst (v := 2) dd_Mo_get_196 rfl ?_
                    refine jj_icmp_ne (tgt := 208) dd_Mo_get_197 (by decide) (fun h197 => ?_) (fun h197 => ?_)
                    · skip
                      refine jj_aload_n 2 dd_Mo_get_208 rfl ?_
                      refine jj_rS (n := 76) hS dd_Mo_get_209 ff_Mo_44 rfl (fun _ => rfl) rfl ?_
                      refine jj_iload 0 dd_Mo_get_212 rfl ?_
                      refine jj_aS hS dd_Mo_get_214 rfl (ix_in (la_ix _ _ _ (by first | (show rec_ F ≤ 1540; omega) | (show rec_ F1 ≤ 1540; omega))) h186) _ rfl ?_
                      refine jj_iret dd_Mo_get_215 rfl rfl ?_
                      rw [if_pos h33, if_pos h55, if_pos h91, if_pos h114, if_neg h129, if_pos h144, if_neg h186, if_neg h197] at hQ
                      exact ⟨_, hS, hQ⟩
                    · skip
                      refine jj_aload_n 2 dd_Mo_get_200 rfl ?_
                      refine jj_iconst (v := 3) dd_Mo_get_201 rfl ?_
                      refine jj_callV (ci := 7) [_] [] 0 0 dd_Mo_get_202 cs_Mo_134 ci_Mo_134 (hS.1.1 60 _ rfl) ⟨by decide, rfl⟩ rfl (Nat.le_of_ble_eq_true rfl) ⟨(Nat.le_of_ble_eq_true rfl), (Nat.le_of_ble_eq_true rfl)⟩ ⟨(Nat.le_of_ble_eq_true rfl), (Nat.le_of_ble_eq_true rfl)⟩ rfl (cs_use (cs_Mo_fails (fun M hS => ?_)) hS)
                      refine jj_goto (tgt := 215) dd_Mo_get_205 (by decide) ?_
                      refine jj_iret dd_Mo_get_215 rfl rfl ?_
                      rw [if_pos h33, if_pos h55, if_pos h91, if_pos h114, if_neg h129, if_pos h144, if_neg h186, if_pos h197] at hQ
                      exact ⟨_, hS, hQ⟩
                · skip
                  refine jj_aload_n 1 dd_Mo_get_147 rfl ?_
                  refine jj_iload_n 3 dd_Mo_get_148 rfl ?_
                  rw [if_pos h33, if_pos h55, if_pos h91, if_pos h114, if_neg h129, if_neg h144] at hQ
                  refine jj_callV (ci := 7) [_] [] 0 0 dd_Mo_get_149 cs_Mo_145 ci_Mo_145 (hS.1.1 60 _ rfl) ⟨by decide, rfl⟩ rfl (Nat.le_of_ble_eq_true rfl) ⟨(Nat.le_of_ble_eq_true rfl), (Nat.le_of_ble_eq_true rfl)⟩ ⟨(Nat.le_of_ble_eq_true rfl), (Nat.le_of_ble_eq_true rfl)⟩ rfl (cs_use (cs_Mo_clearing hi (hok.1 i hi).1 (hok.1 i hi).2 (hok.2 _ (hok.1 i hi).2).1 (hok.2 _ (hok.1 i hi).2).2 hr hr2 (cl_mono (fun r F1 hh => ?_) (cl_str hr hr2 hQ))) hS)
                  intro M hS
                  obtain ⟨hQ, hr3, hr4⟩ := hh
                  have hr4 : rec_ F1 ≤ rec_ F + 2 := hr4
                  refine jj_istore (lv' := [(4, .int _), (3, .int _), (0, .ref (g 60)), (1, .int (nI (c))), (2, .int (nI (i)))]) dd_Mo_get_152 (Nat.le_of_ble_eq_true rfl) rfl ?_
                  refine jj_iload 0 dd_Mo_get_154 rfl ?_
                  refine jj_iconst (v := 1) dd_Mo_get_156 rfl ?_
                  refine jj_icmp_eq (tgt := 165) dd_Mo_get_157 (by decide) (fun h157 => ?_) (fun h157 => ?_)
                  · skip
                    refine jj_aload_n 2 dd_Mo_get_165 rfl ?_
                    refine jj_iconst (v := 2) dd_Mo_get_166 rfl ?_
                    refine jj_callV (ci := 7) [_] [] 0 0 dd_Mo_get_167 cs_Mo_134 ci_Mo_134 (hS.1.1 60 _ rfl) ⟨by decide, rfl⟩ rfl (Nat.le_of_ble_eq_true rfl) ⟨(Nat.le_of_ble_eq_true rfl), (Nat.le_of_ble_eq_true rfl)⟩ ⟨(Nat.le_of_ble_eq_true rfl), (Nat.le_of_ble_eq_true rfl)⟩ rfl (cs_use (cs_Mo_fails (fun M hS => ?_)) hS)
                    refine jj_iret dd_Mo_get_170 rfl rfl ?_
                    rw [if_pos h157] at hQ
                    exact ⟨_, hS, hQ⟩
                  · skip
                    refine jj_iload 0 dd_Mo_get_160 rfl ?_
                    refine jj_if_ne (tgt := 171) dd_Mo_get_162 (by decide) (fun h162 => ?_) (fun h162 => ?_)
                    · skip
                      refine jj_aload_n 2 dd_Mo_get_171 rfl ?_
                      refine jj_iload_n 4 dd_Mo_get_172 rfl ?_
                      refine jj_aload_n 2 dd_Mo_get_173 rfl ?_
                      refine jj_rS (n := 84) hS dd_Mo_get_174 ff_Mo_69 rfl (fun _ => rfl) rfl ?_
                      refine jj_iload_n 3 dd_Mo_get_177 rfl ?_
                      refine jj_aS hS dd_Mo_get_178 rfl (vp_in_nI (n := c) (by omega) (by decide)) (c) (nI_clamp (n := c) (by omega)) ?_
                      refine jj_callV (ci := 7) [_, _] [] 0 0 dd_Mo_get_179 cs_Mo_148 ci_Mo_148 (hS.1.1 60 _ rfl) ⟨by decide, rfl⟩ rfl (Nat.le_of_ble_eq_true rfl) ⟨(Nat.le_of_ble_eq_true rfl), (Nat.le_of_ble_eq_true rfl)⟩ ⟨(Nat.le_of_ble_eq_true rfl), (Nat.le_of_ble_eq_true rfl)⟩ rfl (cs_use (cs_Mo_latest (by first | exact hr | exact hr3) (by first | (show rec_ F ≤ 1540; omega) | (show rec_ F1 ≤ 1540; omega)) (fun M hS => ?_)) hS)
                      refine jj_istore (lv' := [(4, .int _), (3, .int _), (0, .ref (g 60)), (1, .int (nI (c))), (2, .int (nI (i)))]) dd_Mo_get_182 (Nat.le_of_ble_eq_true rfl) rfl ?_
                      refine jj_iload 0 dd_Mo_get_184 rfl ?_
                      refine jj_if_lt (tgt := 200) dd_Mo_get_186 (by decide) (fun h186 => ?_) (fun h186 => ?_)
                      · skip
                        refine jj_aload_n 2 dd_Mo_get_200 rfl ?_
                        refine jj_iconst (v := 3) dd_Mo_get_201 rfl ?_
                        refine jj_callV (ci := 7) [_] [] 0 0 dd_Mo_get_202 cs_Mo_134 ci_Mo_134 (hS.1.1 60 _ rfl) ⟨by decide, rfl⟩ rfl (Nat.le_of_ble_eq_true rfl) ⟨(Nat.le_of_ble_eq_true rfl), (Nat.le_of_ble_eq_true rfl)⟩ ⟨(Nat.le_of_ble_eq_true rfl), (Nat.le_of_ble_eq_true rfl)⟩ rfl (cs_use (cs_Mo_fails (fun M hS => ?_)) hS)
                        refine jj_goto (tgt := 215) dd_Mo_get_205 (by decide) ?_
                        refine jj_iret dd_Mo_get_215 rfl rfl ?_
                        rw [if_neg h157, if_neg h162, if_pos h186] at hQ
                        exact ⟨_, hS, hQ⟩
                      · skip
                        refine jj_aload_n 2 dd_Mo_get_189 rfl ?_
                        refine jj_rS (n := 75) hS dd_Mo_get_190 ff_Mo_41 rfl (fun _ => rfl) rfl ?_
                        refine jj_iload 0 dd_Mo_get_193 rfl ?_
                        refine jj_aS hS dd_Mo_get_195 rfl (ix_in (la_ix _ _ _ (by first | (show rec_ F ≤ 1540; omega) | (show rec_ F1 ≤ 1540; omega))) h186) _ rfl ?_
                        refine jj_iconst (v := 2) dd_Mo_get_196 rfl ?_
                        refine jj_icmp_ne (tgt := 208) dd_Mo_get_197 (by decide) (fun h197 => ?_) (fun h197 => ?_)
                        · skip
                          refine jj_aload_n 2 dd_Mo_get_208 rfl ?_
                          refine jj_rS (n := 76) hS dd_Mo_get_209 ff_Mo_44 rfl (fun _ => rfl) rfl ?_
                          refine jj_iload 0 dd_Mo_get_212 rfl ?_
                          refine jj_aS hS dd_Mo_get_214 rfl (ix_in (la_ix _ _ _ (by first | (show rec_ F ≤ 1540; omega) | (show rec_ F1 ≤ 1540; omega))) h186) _ rfl ?_
                          refine jj_iret dd_Mo_get_215 rfl rfl ?_
                          rw [if_neg h157, if_neg h162, if_neg h186, if_neg h197] at hQ
                          exact ⟨_, hS, hQ⟩
                        · skip
                          refine jj_aload_n 2 dd_Mo_get_200 rfl ?_
                          refine jj_iconst (v := 3) dd_Mo_get_201 rfl ?_
                          refine jj_callV (ci := 7) [_] [] 0 0 dd_Mo_get_202 cs_Mo_134 ci_Mo_134 (hS.1.1 60 _ rfl) ⟨by decide, rfl⟩ rfl (Nat.le_of_ble_eq_true rfl) ⟨(Nat.le_of_ble_eq_true rfl), (Nat.le_of_ble_eq_true rfl)⟩ ⟨(Nat.le_of_ble_eq_true rfl), (Nat.le_of_ble_eq_true rfl)⟩ rfl (cs_use (cs_Mo_fails (fun M hS => ?_)) hS)
                          refine jj_goto (tgt := 215) dd_Mo_get_205 (by decide) ?_
                          refine jj_iret dd_Mo_get_215 rfl rfl ?_
                          rw [if_neg h157, if_neg h162, if_neg h186, if_pos h197] at hQ
                          exact ⟨_, hS, hQ⟩
                    · skip
                      refine jj_aload_n 2 dd_Mo_get_165 rfl ?_
                      refine jj_iconst (v := 2) dd_Mo_get_166 rfl ?_
                      refine jj_callV (ci := 7) [_] [] 0 0 dd_Mo_get_167 cs_Mo_134 ci_Mo_134 (hS.1.1 60 _ rfl) ⟨by decide, rfl⟩ rfl (Nat.le_of_ble_eq_true rfl) ⟨(Nat.le_of_ble_eq_true rfl), (Nat.le_of_ble_eq_true rfl)⟩ ⟨(Nat.le_of_ble_eq_true rfl), (Nat.le_of_ble_eq_true rfl)⟩ rfl (cs_use (cs_Mo_fails (fun M hS => ?_)) hS)
                      refine jj_iret dd_Mo_get_170 rfl rfl ?_
                      rw [if_neg h157, if_pos h162] at hQ
                      exact ⟨_, hS, hQ⟩
            · skip
              refine jj_aload_n 1 dd_Mo_get_117 rfl ?_
              refine jj_iconst (v := 4) dd_Mo_get_118 rfl ?_
              refine jj_callV (ci := 7) [_] [] 0 0 dd_Mo_get_119 cs_Mo_134 ci_Mo_134 (hS.1.1 60 _ rfl) ⟨by decide, rfl⟩ rfl (Nat.le_of_ble_eq_true rfl) ⟨(Nat.le_of_ble_eq_true rfl), (Nat.le_of_ble_eq_true rfl)⟩ ⟨(Nat.le_of_ble_eq_true rfl), (Nat.le_of_ble_eq_true rfl)⟩ rfl (cs_use (cs_Mo_fails (fun M hS => ?_)) hS)
              refine jj_iret dd_Mo_get_122 rfl rfl ?_
              rw [if_pos h33, if_pos h55, if_pos h91, if_neg h114] at hQ
              exact ⟨_, hS, hQ⟩
          · skip
            refine jj_aload_n 1 dd_Mo_get_94 rfl ?_
            refine jj_iconst (v := 2) dd_Mo_get_95 rfl ?_
            refine jj_callV (ci := 7) [_] [] 0 0 dd_Mo_get_96 cs_Mo_134 ci_Mo_134 (hS.1.1 60 _ rfl) ⟨by decide, rfl⟩ rfl (Nat.le_of_ble_eq_true rfl) ⟨(Nat.le_of_ble_eq_true rfl), (Nat.le_of_ble_eq_true rfl)⟩ ⟨(Nat.le_of_ble_eq_true rfl), (Nat.le_of_ble_eq_true rfl)⟩ rfl (cs_use (cs_Mo_fails (fun M hS => ?_)) hS)
            refine jj_iret dd_Mo_get_99 rfl rfl ?_
            rw [if_pos h33, if_pos h55, if_neg h91] at hQ
            exact ⟨_, hS, hQ⟩
        · skip
          refine jj_iload_n 0 dd_Mo_get_58 rfl ?_
          refine jj_iconst (v := 1) dd_Mo_get_59 rfl ?_
          refine jj_icmp_ne (tgt := 77) dd_Mo_get_60 (by decide) (fun h60 => ?_) (fun h60 => ?_)
          · skip
            refine jj_aload_n 1 dd_Mo_get_77 rfl ?_
            refine jj_iconst (v := 3) dd_Mo_get_78 rfl ?_
            refine jj_callV (ci := 7) [_] [] 0 0 dd_Mo_get_79 cs_Mo_134 ci_Mo_134 (hS.1.1 60 _ rfl) ⟨by decide, rfl⟩ rfl (Nat.le_of_ble_eq_true rfl) ⟨(Nat.le_of_ble_eq_true rfl), (Nat.le_of_ble_eq_true rfl)⟩ ⟨(Nat.le_of_ble_eq_true rfl), (Nat.le_of_ble_eq_true rfl)⟩ rfl (cs_use (cs_Mo_fails (fun M hS => ?_)) hS)
            refine jj_iret dd_Mo_get_82 rfl rfl ?_
            rw [if_pos h33, if_neg h55, if_neg h60] at hQ
            exact ⟨_, hS, hQ⟩
          · skip
            refine jj_aload_n 1 dd_Mo_get_63 rfl ?_
            refine jj_rS (n := 88) hS dd_Mo_get_64 ff_Mo_81 rfl (fun _ => rfl) rfl ?_
            refine jj_bipush (v := 12) dd_Mo_get_67 rfl ?_
            refine jj_iload_n 2 dd_Mo_get_69 rfl ?_
            refine jj_imul dd_Mo_get_70 ?_
            refine jj_ti (x' := nI (12 * c)) (pk_mul (12) (c)) ?_
            refine jj_iload_n 3 dd_Mo_get_71 rfl ?_
            refine jj_iadd dd_Mo_get_72 ?_
            refine jj_ti (x' := nI ((12 * c) + (i))) (nI_add (12 * c) (i)) ?_
            refine jj_aS hS dd_Mo_get_73 rfl (vp_in_nI (n := (12 * c) + (i)) (by omega) (by decide)) ((12 * c) + (i)) (nI_clamp (n := (12 * c) + (i)) (by omega)) ?_
            refine jj_goto (tgt := 82) dd_Mo_get_74 (by decide) ?_
            refine jj_iret dd_Mo_get_82 rfl rfl ?_
            rw [if_pos h33, if_neg h55, if_pos h60] at hQ
            exact ⟨_, hS, hQ⟩
      · skip
        refine jj_aload_n 0 dd_Mo_get_36 rfl ?_
        refine jj_iconst (v := 2) dd_Mo_get_37 rfl ?_
        refine jj_callV (ci := 7) [_] [] 0 0 dd_Mo_get_38 cs_Mo_134 ci_Mo_134 (hS.1.1 60 _ rfl) ⟨by decide, rfl⟩ rfl (Nat.le_of_ble_eq_true rfl) ⟨(Nat.le_of_ble_eq_true rfl), (Nat.le_of_ble_eq_true rfl)⟩ ⟨(Nat.le_of_ble_eq_true rfl), (Nat.le_of_ble_eq_true rfl)⟩ rfl (cs_use (cs_Mo_fails (fun M hS => ?_)) hS)
        refine jj_iret dd_Mo_get_41 rfl rfl ?_
        rw [if_neg h33] at hQ
        exact ⟨_, hS, hQ⟩
set_option maxRecDepth 20000 in
theorem cs_Mo_get0 {l : Launch} {g : Nat → Nat} {S : ss_} {Q : Option Value → ss_ → Prop} {u v : Int32} {F : Nat → Nat → Int32} (hF : uf_ S.1 60 1 0 = F) (hx : (u < 0 ∨ 3 < u) ∨ (v < 0 ∨ 11 < v)) (hQ : Q (some (.int 0)) (uf_ F 60 1 1, S.2)) : cs_ l yy_Mo_get bb_Mo_get 5 (some .int) 3 0 0 g [.ref (g 60), .int u, .int v] S Q := by
  intro M hS
  refine ct_of (by decide) (Nat.le_of_ble_eq_true rfl) (fun G A => ?_)
  refine jj_aload_n 0 dd_Mo_get_0 rfl ?_
  refine jj_iconst (v := 0) dd_Mo_get_1 rfl ?_
  refine jj_pS hS dd_Mo_get_2 ⟨ff_Mo_93, rfl⟩ rfl (fun _ => rfl) ⟨rfl, rfl⟩ (fun M hS => ?_)
  rw [hF] at hS
  refine jj_aload_n 0 dd_Mo_get_5 rfl ?_
  refine jj_iload_n 1 dd_Mo_get_6 rfl ?_
  refine jj_callV (ci := 7) [_] [] 0 0 dd_Mo_get_7 cs_Mo_131 ci_Mo_131 (hS.1.1 60 _ rfl) ⟨by decide, rfl⟩ rfl (Nat.le_of_ble_eq_true rfl) ⟨(Nat.le_of_ble_eq_true rfl), (Nat.le_of_ble_eq_true rfl)⟩ ⟨(Nat.le_of_ble_eq_true rfl), (Nat.le_of_ble_eq_true rfl)⟩ rfl (ct_Mo_isClient (fun hb => ?_) (fun hb hb2 => ?_))
  · skip
    refine jj_if_eq (tgt := 20) dd_Mo_get_10 (by decide) (fun _ => ?_) (fun h => absurd h (by decide))
    refine jj_aload_n 0 dd_Mo_get_20 rfl ?_
    refine jj_iconst (v := 1) dd_Mo_get_21 rfl ?_
    refine jj_callV (ci := 7) [_] [] 0 0 dd_Mo_get_22 cs_Mo_134 ci_Mo_134 (hS.1.1 60 _ rfl) ⟨by decide, rfl⟩ rfl (Nat.le_of_ble_eq_true rfl) ⟨(Nat.le_of_ble_eq_true rfl), (Nat.le_of_ble_eq_true rfl)⟩ ⟨(Nat.le_of_ble_eq_true rfl), (Nat.le_of_ble_eq_true rfl)⟩ rfl (cs_use (cs_Mo_fails (fun M hS => ?_)) hS)
    refine jj_iret dd_Mo_get_25 rfl rfl ?_
    exact ⟨_, hS, hQ⟩
  · skip
    have hv := hx.resolve_left (fun h => h.elim hb hb2)
    refine jj_if_eq (tgt := 20) dd_Mo_get_10 (by decide) (fun h => absurd h (by decide)) (fun _ => ?_)
    refine jj_iload_n 2 dd_Mo_get_13 rfl ?_
    refine jj_callS [_] [] 0 0 dd_Mo_get_14 cs_Mo_142 ci_Mo_142 rfl (Nat.le_of_ble_eq_true rfl) ⟨(Nat.le_of_ble_eq_true rfl), (Nat.le_of_ble_eq_true rfl)⟩ ⟨(Nat.le_of_ble_eq_true rfl), (Nat.le_of_ble_eq_true rfl)⟩ rfl (ct_Mo_isCell (fun hb => ?_) (fun hb hb2 => ?_))
    · skip
      refine jj_if_ne (tgt := 26) dd_Mo_get_17 (by decide) (fun h => absurd h (by decide)) (fun _ => ?_)
      refine jj_aload_n 0 dd_Mo_get_20 rfl ?_
      refine jj_iconst (v := 1) dd_Mo_get_21 rfl ?_
      refine jj_callV (ci := 7) [_] [] 0 0 dd_Mo_get_22 cs_Mo_134 ci_Mo_134 (hS.1.1 60 _ rfl) ⟨by decide, rfl⟩ rfl (Nat.le_of_ble_eq_true rfl) ⟨(Nat.le_of_ble_eq_true rfl), (Nat.le_of_ble_eq_true rfl)⟩ ⟨(Nat.le_of_ble_eq_true rfl), (Nat.le_of_ble_eq_true rfl)⟩ rfl (cs_use (cs_Mo_fails (fun M hS => ?_)) hS)
      refine jj_iret dd_Mo_get_25 rfl rfl ?_
      exact ⟨_, hS, hQ⟩
    · skip
      exact absurd hv (fun h => h.elim hb hb2)
set_option maxRecDepth 20000 in
theorem cs_Mo_kill {l : Launch} {g : Nat → Nat} {S : ss_} {Q : Option Value → ss_ → Prop} {c : Nat} {F : Nat → Nat → Int32} (hF : uf_ S.1 60 1 0 = F) (hc : c < 4) (hQ : ki_ F c (fun r F => Q (some (.int r)) (F, S.2))) : cs_ l yy_Mo_kill bb_Mo_kill 2 (some .boolean) 2 0 0 g [.ref (g 60), .int (nI c)] S Q := by
  intro M hS
  refine ct_of (by decide) (Nat.le_of_ble_eq_true rfl) (fun G A => ?_)
  unfold ki_ at hQ
  refine jj_aload_n 0 dd_Mo_kill_0 rfl ?_
  refine jj_iconst (v := 0) dd_Mo_kill_1 rfl ?_
  refine jj_pS hS dd_Mo_kill_2 ⟨ff_Mo_93, rfl⟩ rfl (fun _ => rfl) ⟨rfl, rfl⟩ (fun M hS => ?_)
  rw [hF] at hS
  refine jj_aload_n 0 dd_Mo_kill_5 rfl ?_
  refine jj_iload_n 1 dd_Mo_kill_6 rfl ?_
  refine jj_callV (ci := 7) [_] [] 0 0 dd_Mo_kill_7 cs_Mo_131 ci_Mo_131 (hS.1.1 60 _ rfl) ⟨by decide, rfl⟩ rfl (Nat.le_of_ble_eq_true rfl) ⟨(Nat.le_of_ble_eq_true rfl), (Nat.le_of_ble_eq_true rfl)⟩ ⟨(Nat.le_of_ble_eq_true rfl), (Nat.le_of_ble_eq_true rfl)⟩ rfl (ct_Mo_isClient (fun hb => ?_) (fun hb hb2 => ?_))
  · skip
    exact absurd hb (nc_ (n := 3) (by decide) (by omega) (by decide))
  · skip
    refine jj_if_eq (tgt := 22) dd_Mo_kill_10 (by decide) (fun h => absurd h (by decide)) (fun _ => ?_)
    refine jj_aload_n 0 dd_Mo_kill_13 rfl ?_
    refine jj_rS (n := 83) hS dd_Mo_kill_14 ff_Mo_66 rfl (fun _ => rfl) rfl ?_
    refine jj_iload_n 1 dd_Mo_kill_17 rfl ?_
    refine jj_aS hS dd_Mo_kill_18 rfl (vp_in_nI (n := c) (by omega) (by decide)) (c) (nI_clamp (n := c) (by omega)) ?_
    refine jj_if_ne (tgt := 24) dd_Mo_kill_19 (by decide) (fun h19 => ?_) (fun h19 => ?_)
    · skip
      refine jj_aload_n 0 dd_Mo_kill_24 rfl ?_
      refine jj_rS (n := 83) hS dd_Mo_kill_25 ff_Mo_66 rfl (fun _ => rfl) rfl ?_
      refine jj_iload_n 1 dd_Mo_kill_28 rfl ?_
      refine jj_iconst (v := 0) dd_Mo_kill_29 rfl ?_
      refine jj_asS hS dd_Mo_kill_30 rfl (vp_in_nI (n := c) (by omega) (by decide)) (c) (nI_clamp (n := c) (by omega)) (fun M hS => ?_)
      refine jj_iconst (v := 1) dd_Mo_kill_31 rfl ?_
      refine jj_iret dd_Mo_kill_32 rfl rfl ?_
      rw [if_neg h19] at hQ
      exact ⟨_, hS, hQ⟩
    · skip
      refine jj_iconst (v := 0) dd_Mo_kill_22 rfl ?_
      refine jj_iret dd_Mo_kill_23 rfl rfl ?_
      rw [if_pos h19] at hQ
      exact ⟨_, hS, hQ⟩
set_option maxRecDepth 20000 in
theorem cs_Mo_kill0 {l : Launch} {g : Nat → Nat} {S : ss_} {Q : Option Value → ss_ → Prop} {x : Int32} {F : Nat → Nat → Int32} (hF : uf_ S.1 60 1 0 = F) (hx : x < 0 ∨ 3 < x) (hQ : Q (some (.int 0)) (F, S.2)) : cs_ l yy_Mo_kill bb_Mo_kill 2 (some .boolean) 2 0 0 g [.ref (g 60), .int x] S Q := by
  intro M hS
  refine ct_of (by decide) (Nat.le_of_ble_eq_true rfl) (fun G A => ?_)
  refine jj_aload_n 0 dd_Mo_kill_0 rfl ?_
  refine jj_iconst (v := 0) dd_Mo_kill_1 rfl ?_
  refine jj_pS hS dd_Mo_kill_2 ⟨ff_Mo_93, rfl⟩ rfl (fun _ => rfl) ⟨rfl, rfl⟩ (fun M hS => ?_)
  rw [hF] at hS
  refine jj_aload_n 0 dd_Mo_kill_5 rfl ?_
  refine jj_iload_n 1 dd_Mo_kill_6 rfl ?_
  refine jj_callV (ci := 7) [_] [] 0 0 dd_Mo_kill_7 cs_Mo_131 ci_Mo_131 (hS.1.1 60 _ rfl) ⟨by decide, rfl⟩ rfl (Nat.le_of_ble_eq_true rfl) ⟨(Nat.le_of_ble_eq_true rfl), (Nat.le_of_ble_eq_true rfl)⟩ ⟨(Nat.le_of_ble_eq_true rfl), (Nat.le_of_ble_eq_true rfl)⟩ rfl (ct_Mo_isClient (fun hb => ?_) (fun hb hb2 => ?_))
  · skip
    refine jj_if_eq (tgt := 22) dd_Mo_kill_10 (by decide) (fun _ => ?_) (fun h => absurd h (by decide))
    refine jj_iconst (v := 0) dd_Mo_kill_22 rfl ?_
    refine jj_iret dd_Mo_kill_23 rfl rfl ?_
    exact ⟨_, hS, hQ⟩
  · skip
    exact absurd hx (fun h => h.elim hb hb2)
set_option maxRecDepth 20000 in
theorem cs_Mo_clear {l : Launch} {g : Nat → Nat} {S : ss_} {Q : Option Value → ss_ → Prop} {i : Nat} {F : Nat → Nat → Int32} (hF : uf_ S.1 60 1 0 = F) (hi : i < 12) (hok : ok_ F) (hr : F 60 11 = nI (rec_ F)) (hr2 : rec_ F < 1538) (hQ : ce_ F i (fun r F => Q (some (.int r)) (F, S.2))) : cs_ l yy_Mo_clear bb_Mo_clear 3 (some .int) 3 0 0 g [.ref (g 60), .int (nI i)] S Q := by
  intro M hS
  refine ct_of (by decide) (Nat.le_of_ble_eq_true rfl) (fun G A => ?_)
  unfold ce_ at hQ
  refine jj_aload_n 0 dd_Mo_clear_0 rfl ?_
  refine jj_iconst (v := 0) dd_Mo_clear_1 rfl ?_
  refine jj_pS hS dd_Mo_clear_2 ⟨ff_Mo_93, rfl⟩ rfl (fun _ => rfl) ⟨rfl, rfl⟩ (fun M hS => ?_)
  rw [hF] at hS
  refine jj_iload_n 1 dd_Mo_clear_5 rfl ?_
  refine jj_callS [_] [] 0 0 dd_Mo_clear_6 cs_Mo_142 ci_Mo_142 rfl (Nat.le_of_ble_eq_true rfl) ⟨(Nat.le_of_ble_eq_true rfl), (Nat.le_of_ble_eq_true rfl)⟩ ⟨(Nat.le_of_ble_eq_true rfl), (Nat.le_of_ble_eq_true rfl)⟩ rfl (ct_Mo_isCell (fun hb => ?_) (fun hb hb2 => ?_))
  · skip
    exact absurd hb (nc_ (n := 11) (by decide) (by omega) (by decide))
  · skip
    refine jj_if_ne (tgt := 18) dd_Mo_clear_9 (by decide) (fun _ => ?_) (fun h => absurd h (by decide))
    refine jj_aload_n 0 dd_Mo_clear_18 rfl ?_
    refine jj_rS (n := 77) hS dd_Mo_clear_19 ff_Mo_47 rfl (fun _ => rfl) rfl ?_
    refine jj_iload_n 1 dd_Mo_clear_22 rfl ?_
    refine jj_iconst (v := 4) dd_Mo_clear_23 rfl ?_
    refine jj_idiv dd_Mo_clear_24 (by decide) ?_
    refine jj_ti (x' := nI ((i) / 4)) (pk_div (a := i) (d := 4) (by omega) (by decide) (by decide)) ?_
    refine jj_zS hS dd_Mo_clear_25 rfl (vp_in_nI (n := (i) / 4) (by omega) (by decide)) ((i) / 4) (nI_clamp (n := (i) / 4) (by omega)) ?_
    refine jj_if_eq (tgt := 35) dd_Mo_clear_26 (by decide) (fun h26 => ?_) (fun h26 => ?_)
    · skip
      refine jj_aload_n 0 dd_Mo_clear_35 rfl ?_
      refine jj_rS (n := 65) hS dd_Mo_clear_36 ff_Mo_13 rfl (fun _ => rfl) rfl ?_
      refine jj_iload_n 1 dd_Mo_clear_39 rfl ?_
      refine jj_aS hS dd_Mo_clear_40 rfl (vp_in_nI (n := i) (by omega) (by decide)) (i) (nI_clamp (n := i) (by omega)) ?_
      refine jj_if_ne (tgt := 46) dd_Mo_clear_41 (by decide) (fun h41 => ?_) (fun h41 => ?_)
      · skip
        refine jj_aload_n 0 dd_Mo_clear_46 rfl ?_
        refine jj_iload_n 1 dd_Mo_clear_47 rfl ?_
        rw [if_pos h26, if_neg h41] at hQ
        refine jj_callV (ci := 7) [_] [] 0 0 dd_Mo_clear_48 cs_Mo_145 ci_Mo_145 (hS.1.1 60 _ rfl) ⟨by decide, rfl⟩ rfl (Nat.le_of_ble_eq_true rfl) ⟨(Nat.le_of_ble_eq_true rfl), (Nat.le_of_ble_eq_true rfl)⟩ ⟨(Nat.le_of_ble_eq_true rfl), (Nat.le_of_ble_eq_true rfl)⟩ rfl (cs_use (cs_Mo_clearing hi (hok.1 i hi).1 (hok.1 i hi).2 (hok.2 _ (hok.1 i hi).2).1 (hok.2 _ (hok.1 i hi).2).2 hr hr2 (cl_mono (fun r F1 hh => ?_) (cl_str hr hr2 hQ))) hS)
        intro M hS
        obtain ⟨hQ, hr3, hr4⟩ := hh
        have hr4 : rec_ F1 ≤ rec_ F + 2 := hr4
        refine jj_istore_n (lv' := [(2, .int _), (0, .ref (g 60)), (1, .int (nI (i)))]) dd_Mo_clear_51 (Nat.le_of_ble_eq_true rfl) rfl ?_
        refine jj_iload_n 0 dd_Mo_clear_52 rfl ?_
        refine jj_iconst (v := 1) dd_Mo_clear_53 rfl ?_
        refine jj_icmp_eq (tgt := 61) dd_Mo_clear_54 (by decide) (fun h54 => ?_) (fun h54 => ?_)
        · skip
          refine jj_aload_n 1 dd_Mo_clear_61 rfl ?_
          refine jj_iconst (v := 2) dd_Mo_clear_62 rfl ?_
          refine jj_callV (ci := 7) [_] [] 0 0 dd_Mo_clear_63 cs_Mo_134 ci_Mo_134 (hS.1.1 60 _ rfl) ⟨by decide, rfl⟩ rfl (Nat.le_of_ble_eq_true rfl) ⟨(Nat.le_of_ble_eq_true rfl), (Nat.le_of_ble_eq_true rfl)⟩ ⟨(Nat.le_of_ble_eq_true rfl), (Nat.le_of_ble_eq_true rfl)⟩ rfl (cs_use (cs_Mo_fails (fun M hS => ?_)) hS)
          refine jj_goto (tgt := 79) dd_Mo_clear_66 (by decide) ?_
          refine jj_iret dd_Mo_clear_79 rfl rfl ?_
          rw [if_pos h54] at hQ
          exact ⟨_, hS, hQ⟩
        · skip
          refine jj_iload_n 0 dd_Mo_clear_57 rfl ?_
          refine jj_if_ne (tgt := 69) dd_Mo_clear_58 (by decide) (fun h58 => ?_) (fun h58 => ?_)
          · skip
            refine jj_iload_n 0 dd_Mo_clear_69 rfl ?_
            refine jj_iconst (v := 2) dd_Mo_clear_70 rfl ?_
            refine jj_icmp_ne (tgt := 78) dd_Mo_clear_71 (by decide) (fun h71 => ?_) (fun h71 => ?_)
            · skip
              refine jj_iconst (v := 2) dd_Mo_clear_78 rfl ?_
              refine jj_iret dd_Mo_clear_79 rfl rfl ?_
              rw [if_neg h54, if_neg h58, if_neg h71] at hQ
              exact ⟨_, hS, hQ⟩
            · skip
              refine jj_iconst (v := 1) dd_Mo_clear_74 rfl ?_
              refine jj_goto (tgt := 79) dd_Mo_clear_75 (by decide) ?_
              refine jj_iret dd_Mo_clear_79 rfl rfl ?_
              rw [if_neg h54, if_neg h58, if_pos h71] at hQ
              exact ⟨_, hS, hQ⟩
          · skip
            refine jj_aload_n 1 dd_Mo_clear_61 rfl ?_
            refine jj_iconst (v := 2) dd_Mo_clear_62 rfl ?_
            refine jj_callV (ci := 7) [_] [] 0 0 dd_Mo_clear_63 cs_Mo_134 ci_Mo_134 (hS.1.1 60 _ rfl) ⟨by decide, rfl⟩ rfl (Nat.le_of_ble_eq_true rfl) ⟨(Nat.le_of_ble_eq_true rfl), (Nat.le_of_ble_eq_true rfl)⟩ ⟨(Nat.le_of_ble_eq_true rfl), (Nat.le_of_ble_eq_true rfl)⟩ rfl (cs_use (cs_Mo_fails (fun M hS => ?_)) hS)
            refine jj_goto (tgt := 79) dd_Mo_clear_66 (by decide) ?_
            refine jj_iret dd_Mo_clear_79 rfl rfl ?_
            rw [if_neg h54, if_pos h58] at hQ
            exact ⟨_, hS, hQ⟩
      · skip
        refine jj_iconst (v := 0) dd_Mo_clear_44 rfl ?_
        refine jj_iret dd_Mo_clear_45 rfl rfl ?_
        rw [if_pos h26, if_pos h41] at hQ
        exact ⟨_, hS, hQ⟩
    · skip
      refine jj_aload_n 0 dd_Mo_clear_29 rfl ?_
      refine jj_iconst (v := 2) dd_Mo_clear_30 rfl ?_
      refine jj_callV (ci := 7) [_] [] 0 0 dd_Mo_clear_31 cs_Mo_134 ci_Mo_134 (hS.1.1 60 _ rfl) ⟨by decide, rfl⟩ rfl (Nat.le_of_ble_eq_true rfl) ⟨(Nat.le_of_ble_eq_true rfl), (Nat.le_of_ble_eq_true rfl)⟩ ⟨(Nat.le_of_ble_eq_true rfl), (Nat.le_of_ble_eq_true rfl)⟩ rfl (cs_use (cs_Mo_fails (fun M hS => ?_)) hS)
      refine jj_iret dd_Mo_clear_34 rfl rfl ?_
      rw [if_neg h26] at hQ
      exact ⟨_, hS, hQ⟩
set_option maxRecDepth 20000 in
theorem cs_Mo_clear0 {l : Launch} {g : Nat → Nat} {S : ss_} {Q : Option Value → ss_ → Prop} {x : Int32} {F : Nat → Nat → Int32} (hF : uf_ S.1 60 1 0 = F) (hx : x < 0 ∨ 11 < x) (hQ : Q (some (.int 0)) (uf_ F 60 1 1, S.2)) : cs_ l yy_Mo_clear bb_Mo_clear 3 (some .int) 3 0 0 g [.ref (g 60), .int x] S Q := by
  intro M hS
  refine ct_of (by decide) (Nat.le_of_ble_eq_true rfl) (fun G A => ?_)
  refine jj_aload_n 0 dd_Mo_clear_0 rfl ?_
  refine jj_iconst (v := 0) dd_Mo_clear_1 rfl ?_
  refine jj_pS hS dd_Mo_clear_2 ⟨ff_Mo_93, rfl⟩ rfl (fun _ => rfl) ⟨rfl, rfl⟩ (fun M hS => ?_)
  rw [hF] at hS
  refine jj_iload_n 1 dd_Mo_clear_5 rfl ?_
  refine jj_callS [_] [] 0 0 dd_Mo_clear_6 cs_Mo_142 ci_Mo_142 rfl (Nat.le_of_ble_eq_true rfl) ⟨(Nat.le_of_ble_eq_true rfl), (Nat.le_of_ble_eq_true rfl)⟩ ⟨(Nat.le_of_ble_eq_true rfl), (Nat.le_of_ble_eq_true rfl)⟩ rfl (ct_Mo_isCell (fun hb => ?_) (fun hb hb2 => ?_))
  · skip
    refine jj_if_ne (tgt := 18) dd_Mo_clear_9 (by decide) (fun h => absurd h (by decide)) (fun _ => ?_)
    refine jj_aload_n 0 dd_Mo_clear_12 rfl ?_
    refine jj_iconst (v := 1) dd_Mo_clear_13 rfl ?_
    refine jj_callV (ci := 7) [_] [] 0 0 dd_Mo_clear_14 cs_Mo_134 ci_Mo_134 (hS.1.1 60 _ rfl) ⟨by decide, rfl⟩ rfl (Nat.le_of_ble_eq_true rfl) ⟨(Nat.le_of_ble_eq_true rfl), (Nat.le_of_ble_eq_true rfl)⟩ ⟨(Nat.le_of_ble_eq_true rfl), (Nat.le_of_ble_eq_true rfl)⟩ rfl (cs_use (cs_Mo_fails (fun M hS => ?_)) hS)
    refine jj_iret dd_Mo_clear_17 rfl rfl ?_
    exact ⟨_, hS, hQ⟩
  · skip
    exact absurd hx (fun h => h.elim hb hb2)
set_option maxRecDepth 20000 in
theorem cs_Mo_tick {l : Launch} {g : Nat → Nat} {S : ss_} {Q : Option Value → ss_ → Prop} {x : Int32} {F : Nat → Nat → Int32} (hF : uf_ S.1 60 1 0 = F) (hx : ¬ x < 0) (hx2 : ¬ 50 < x) (hQ : Q (some (.int (F 60 2 + x))) (uf_ F 60 2 (F 60 2 + x), S.2)) : cs_ l yy_Mo_tick bb_Mo_tick 2 (some .int) 1 0 0 g [.ref (g 60), .int x] S Q := by
  intro M hS
  refine ct_of (by decide) (Nat.le_of_ble_eq_true rfl) (fun G A => ?_)
  refine jj_aload_n 0 dd_Mo_tick_0 rfl ?_
  refine jj_iconst (v := 0) dd_Mo_tick_1 rfl ?_
  refine jj_pS hS dd_Mo_tick_2 ⟨ff_Mo_93, rfl⟩ rfl (fun _ => rfl) ⟨rfl, rfl⟩ (fun M hS => ?_)
  rw [hF] at hS
  refine jj_iload_n 1 dd_Mo_tick_5 rfl ?_
  refine jj_iconst (v := 0) dd_Mo_tick_6 rfl ?_
  refine jj_bipush (v := 50) dd_Mo_tick_7 rfl ?_
  refine jj_callS [_, _, _] [] 0 0 dd_Mo_tick_9 cs_Mo_127 ci_Mo_127 rfl (Nat.le_of_ble_eq_true rfl) ⟨(Nat.le_of_ble_eq_true rfl), (Nat.le_of_ble_eq_true rfl)⟩ ⟨(Nat.le_of_ble_eq_true rfl), (Nat.le_of_ble_eq_true rfl)⟩ rfl (ct_Mo_in (fun hb => ?_) (fun hb hb2 => ?_))
  · skip
    exact absurd hb (fun h => h.elim hx hx2)
  · skip
    refine jj_if_ne (tgt := 17) dd_Mo_tick_12 (by decide) (fun _ => ?_) (fun h => absurd h (by decide))
    refine jj_aload_n 0 dd_Mo_tick_17 rfl ?_
    refine jj_dup dd_Mo_tick_18 rfl ?_
    refine jj_gS hS dd_Mo_tick_19 ff_Mo_110 rfl (fun _ => rfl) ?_
    refine jj_iload_n 1 dd_Mo_tick_22 rfl ?_
    refine jj_iadd dd_Mo_tick_23 ?_
    refine jj_pS hS dd_Mo_tick_24 ⟨ff_Mo_110, rfl⟩ rfl (fun _ => rfl) ⟨rfl, rfl⟩ (fun M hS => ?_)
    refine jj_aload_n 0 dd_Mo_tick_27 rfl ?_
    refine jj_gS hS dd_Mo_tick_28 ff_Mo_110 rfl (fun _ => rfl) ?_
    refine jj_iret dd_Mo_tick_31 rfl rfl ?_
    refine ⟨_, hS, ?_⟩
    simpa [uf_at] using hQ
set_option maxRecDepth 20000 in
theorem cs_Mo_tick0 {l : Launch} {g : Nat → Nat} {S : ss_} {Q : Option Value → ss_ → Prop} {x : Int32} {F : Nat → Nat → Int32} (hF : uf_ S.1 60 1 0 = F) (hx : x < 0 ∨ 50 < x) (hQ : Q (some (.int (-1))) (F, S.2)) : cs_ l yy_Mo_tick bb_Mo_tick 2 (some .int) 1 0 0 g [.ref (g 60), .int x] S Q := by
  intro M hS
  refine ct_of (by decide) (Nat.le_of_ble_eq_true rfl) (fun G A => ?_)
  refine jj_aload_n 0 dd_Mo_tick_0 rfl ?_
  refine jj_iconst (v := 0) dd_Mo_tick_1 rfl ?_
  refine jj_pS hS dd_Mo_tick_2 ⟨ff_Mo_93, rfl⟩ rfl (fun _ => rfl) ⟨rfl, rfl⟩ (fun M hS => ?_)
  rw [hF] at hS
  refine jj_iload_n 1 dd_Mo_tick_5 rfl ?_
  refine jj_iconst (v := 0) dd_Mo_tick_6 rfl ?_
  refine jj_bipush (v := 50) dd_Mo_tick_7 rfl ?_
  refine jj_callS [_, _, _] [] 0 0 dd_Mo_tick_9 cs_Mo_127 ci_Mo_127 rfl (Nat.le_of_ble_eq_true rfl) ⟨(Nat.le_of_ble_eq_true rfl), (Nat.le_of_ble_eq_true rfl)⟩ ⟨(Nat.le_of_ble_eq_true rfl), (Nat.le_of_ble_eq_true rfl)⟩ rfl (ct_Mo_in (fun hb => ?_) (fun hb hb2 => ?_))
  · skip
    refine jj_if_ne (tgt := 17) dd_Mo_tick_12 (by decide) (fun h => absurd h (by decide)) (fun _ => ?_)
    refine jj_iconst (v := (-1)) dd_Mo_tick_15 rfl ?_
    refine jj_iret dd_Mo_tick_16 rfl rfl ?_
    exact ⟨_, hS, hQ⟩
  · skip
    exact absurd hx (fun h => h.elim hb hb2)
set_option maxRecDepth 20000 in
theorem cs_Mo_crash {l : Launch} {g : Nat → Nat} {S : ss_} {Q : Option Value → ss_ → Prop} {t : Nat} {F : Nat → Nat → Int32} (hF : uf_ S.1 60 1 0 = F) (ht : t < 3) (hQ : cr_ F t (fun r F => Q (some (.int r)) (F, S.2))) : cs_ l yy_Mo_crash bb_Mo_crash 2 (some .boolean) 1 0 0 g [.ref (g 60), .int (nI t)] S Q := by
  intro M hS
  refine ct_of (by decide) (Nat.le_of_ble_eq_true rfl) (fun G A => ?_)
  unfold cr_ at hQ
  refine jj_aload_n 0 dd_Mo_crash_0 rfl ?_
  refine jj_iconst (v := 0) dd_Mo_crash_1 rfl ?_
  refine jj_pS hS dd_Mo_crash_2 ⟨ff_Mo_93, rfl⟩ rfl (fun _ => rfl) ⟨rfl, rfl⟩ (fun M hS => ?_)
  rw [hF] at hS
  refine jj_iload_n 1 dd_Mo_crash_5 rfl ?_
  refine jj_iconst (v := 0) dd_Mo_crash_6 rfl ?_
  refine jj_iconst (v := 2) dd_Mo_crash_7 rfl ?_
  refine jj_callS [_, _, _] [] 0 0 dd_Mo_crash_8 cs_Mo_127 ci_Mo_127 rfl (Nat.le_of_ble_eq_true rfl) ⟨(Nat.le_of_ble_eq_true rfl), (Nat.le_of_ble_eq_true rfl)⟩ ⟨(Nat.le_of_ble_eq_true rfl), (Nat.le_of_ble_eq_true rfl)⟩ rfl (ct_Mo_in (fun hb => ?_) (fun hb hb2 => ?_))
  · skip
    exact absurd hb (nc_ (n := 2) (by decide) (by omega) (by decide))
  · skip
    refine jj_if_eq (tgt := 23) dd_Mo_crash_11 (by decide) (fun h => absurd h (by decide)) (fun _ => ?_)
    refine jj_aload_n 0 dd_Mo_crash_14 rfl ?_
    refine jj_rS (n := 77) hS dd_Mo_crash_15 ff_Mo_47 rfl (fun _ => rfl) rfl ?_
    refine jj_iload_n 1 dd_Mo_crash_18 rfl ?_
    refine jj_zS hS dd_Mo_crash_19 rfl (vp_in_nI (n := t) (by omega) (by decide)) (t) (nI_clamp (n := t) (by omega)) ?_
    refine jj_if_eq (tgt := 25) dd_Mo_crash_20 (by decide) (fun h20 => ?_) (fun h20 => ?_)
    · skip
      refine jj_aload_n 0 dd_Mo_crash_25 rfl ?_
      refine jj_rS (n := 77) hS dd_Mo_crash_26 ff_Mo_47 rfl (fun _ => rfl) rfl ?_
      refine jj_iload_n 1 dd_Mo_crash_29 rfl ?_
      refine jj_iconst (v := 1) dd_Mo_crash_30 rfl ?_
      refine jj_zsS hS dd_Mo_crash_31 rfl (vp_in_nI (n := t) (by omega) (by decide)) rfl (t) (nI_clamp (n := t) (by omega)) (fun M hS => ?_)
      refine jj_iconst (v := 1) dd_Mo_crash_32 rfl ?_
      refine jj_iret dd_Mo_crash_33 rfl rfl ?_
      rw [if_pos h20] at hQ
      exact ⟨_, hS, hQ⟩
    · skip
      refine jj_iconst (v := 0) dd_Mo_crash_23 rfl ?_
      refine jj_iret dd_Mo_crash_24 rfl rfl ?_
      rw [if_neg h20] at hQ
      exact ⟨_, hS, hQ⟩
set_option maxRecDepth 20000 in
theorem cs_Mo_crash0 {l : Launch} {g : Nat → Nat} {S : ss_} {Q : Option Value → ss_ → Prop} {x : Int32} {F : Nat → Nat → Int32} (hF : uf_ S.1 60 1 0 = F) (hx : x < 0 ∨ 2 < x) (hQ : Q (some (.int 0)) (F, S.2)) : cs_ l yy_Mo_crash bb_Mo_crash 2 (some .boolean) 1 0 0 g [.ref (g 60), .int x] S Q := by
  intro M hS
  refine ct_of (by decide) (Nat.le_of_ble_eq_true rfl) (fun G A => ?_)
  refine jj_aload_n 0 dd_Mo_crash_0 rfl ?_
  refine jj_iconst (v := 0) dd_Mo_crash_1 rfl ?_
  refine jj_pS hS dd_Mo_crash_2 ⟨ff_Mo_93, rfl⟩ rfl (fun _ => rfl) ⟨rfl, rfl⟩ (fun M hS => ?_)
  rw [hF] at hS
  refine jj_iload_n 1 dd_Mo_crash_5 rfl ?_
  refine jj_iconst (v := 0) dd_Mo_crash_6 rfl ?_
  refine jj_iconst (v := 2) dd_Mo_crash_7 rfl ?_
  refine jj_callS [_, _, _] [] 0 0 dd_Mo_crash_8 cs_Mo_127 ci_Mo_127 rfl (Nat.le_of_ble_eq_true rfl) ⟨(Nat.le_of_ble_eq_true rfl), (Nat.le_of_ble_eq_true rfl)⟩ ⟨(Nat.le_of_ble_eq_true rfl), (Nat.le_of_ble_eq_true rfl)⟩ rfl (ct_Mo_in (fun hb => ?_) (fun hb hb2 => ?_))
  · skip
    refine jj_if_eq (tgt := 23) dd_Mo_crash_11 (by decide) (fun _ => ?_) (fun h => absurd h (by decide))
    refine jj_iconst (v := 0) dd_Mo_crash_23 rfl ?_
    refine jj_iret dd_Mo_crash_24 rfl rfl ?_
    exact ⟨_, hS, hQ⟩
  · skip
    exact absurd hx (fun h => h.elim hb hb2)
set_option maxRecDepth 20000 in
theorem cs_Mo_recover {l : Launch} {g : Nat → Nat} {S : ss_} {Q : Option Value → ss_ → Prop} {t : Nat} {F : Nat → Nat → Int32} (hF : uf_ S.1 60 1 0 = F) (ht : t < 3) (hQ : re_ F t (fun r F => Q (some (.int r)) (F, S.2))) : cs_ l yy_Mo_recover bb_Mo_recover 2 (some .boolean) 1 0 0 g [.ref (g 60), .int (nI t)] S Q := by
  intro M hS
  refine ct_of (by decide) (Nat.le_of_ble_eq_true rfl) (fun G A => ?_)
  unfold re_ at hQ
  refine jj_aload_n 0 dd_Mo_recover_0 rfl ?_
  refine jj_iconst (v := 0) dd_Mo_recover_1 rfl ?_
  refine jj_pS hS dd_Mo_recover_2 ⟨ff_Mo_93, rfl⟩ rfl (fun _ => rfl) ⟨rfl, rfl⟩ (fun M hS => ?_)
  rw [hF] at hS
  refine jj_iload_n 1 dd_Mo_recover_5 rfl ?_
  refine jj_iconst (v := 0) dd_Mo_recover_6 rfl ?_
  refine jj_iconst (v := 2) dd_Mo_recover_7 rfl ?_
  refine jj_callS [_, _, _] [] 0 0 dd_Mo_recover_8 cs_Mo_127 ci_Mo_127 rfl (Nat.le_of_ble_eq_true rfl) ⟨(Nat.le_of_ble_eq_true rfl), (Nat.le_of_ble_eq_true rfl)⟩ ⟨(Nat.le_of_ble_eq_true rfl), (Nat.le_of_ble_eq_true rfl)⟩ rfl (ct_Mo_in (fun hb => ?_) (fun hb hb2 => ?_))
  · skip
    exact absurd hb (nc_ (n := 2) (by decide) (by omega) (by decide))
  · skip
    refine jj_if_eq (tgt := 23) dd_Mo_recover_11 (by decide) (fun h => absurd h (by decide)) (fun _ => ?_)
    refine jj_aload_n 0 dd_Mo_recover_14 rfl ?_
    refine jj_rS (n := 77) hS dd_Mo_recover_15 ff_Mo_47 rfl (fun _ => rfl) rfl ?_
    refine jj_iload_n 1 dd_Mo_recover_18 rfl ?_
    refine jj_zS hS dd_Mo_recover_19 rfl (vp_in_nI (n := t) (by omega) (by decide)) (t) (nI_clamp (n := t) (by omega)) ?_
    refine jj_if_ne (tgt := 25) dd_Mo_recover_20 (by decide) (fun h20 => ?_) (fun h20 => ?_)
    · skip
      refine jj_aload_n 0 dd_Mo_recover_25 rfl ?_
      refine jj_rS (n := 77) hS dd_Mo_recover_26 ff_Mo_47 rfl (fun _ => rfl) rfl ?_
      refine jj_iload_n 1 dd_Mo_recover_29 rfl ?_
      refine jj_iconst (v := 0) dd_Mo_recover_30 rfl ?_
      refine jj_zsS hS dd_Mo_recover_31 rfl (vp_in_nI (n := t) (by omega) (by decide)) rfl (t) (nI_clamp (n := t) (by omega)) (fun M hS => ?_)
      refine jj_aload_n 0 dd_Mo_recover_32 rfl ?_
      refine jj_rS (n := 81) hS dd_Mo_recover_33 ff_Mo_60 rfl (fun _ => rfl) rfl ?_
      refine jj_iload_n 1 dd_Mo_recover_36 rfl ?_
      refine jj_iconst (v := 0) dd_Mo_recover_37 rfl ?_
      refine jj_asS hS dd_Mo_recover_38 rfl (vp_in_nI (n := t) (by omega) (by decide)) (t) (nI_clamp (n := t) (by omega)) (fun M hS => ?_)
      refine jj_iconst (v := 1) dd_Mo_recover_39 rfl ?_
      refine jj_iret dd_Mo_recover_40 rfl rfl ?_
      rw [if_neg h20] at hQ
      exact ⟨_, hS, hQ⟩
    · skip
      refine jj_iconst (v := 0) dd_Mo_recover_23 rfl ?_
      refine jj_iret dd_Mo_recover_24 rfl rfl ?_
      rw [if_pos h20] at hQ
      exact ⟨_, hS, hQ⟩
set_option maxRecDepth 20000 in
theorem cs_Mo_recover0 {l : Launch} {g : Nat → Nat} {S : ss_} {Q : Option Value → ss_ → Prop} {x : Int32} {F : Nat → Nat → Int32} (hF : uf_ S.1 60 1 0 = F) (hx : x < 0 ∨ 2 < x) (hQ : Q (some (.int 0)) (F, S.2)) : cs_ l yy_Mo_recover bb_Mo_recover 2 (some .boolean) 1 0 0 g [.ref (g 60), .int x] S Q := by
  intro M hS
  refine ct_of (by decide) (Nat.le_of_ble_eq_true rfl) (fun G A => ?_)
  refine jj_aload_n 0 dd_Mo_recover_0 rfl ?_
  refine jj_iconst (v := 0) dd_Mo_recover_1 rfl ?_
  refine jj_pS hS dd_Mo_recover_2 ⟨ff_Mo_93, rfl⟩ rfl (fun _ => rfl) ⟨rfl, rfl⟩ (fun M hS => ?_)
  rw [hF] at hS
  refine jj_iload_n 1 dd_Mo_recover_5 rfl ?_
  refine jj_iconst (v := 0) dd_Mo_recover_6 rfl ?_
  refine jj_iconst (v := 2) dd_Mo_recover_7 rfl ?_
  refine jj_callS [_, _, _] [] 0 0 dd_Mo_recover_8 cs_Mo_127 ci_Mo_127 rfl (Nat.le_of_ble_eq_true rfl) ⟨(Nat.le_of_ble_eq_true rfl), (Nat.le_of_ble_eq_true rfl)⟩ ⟨(Nat.le_of_ble_eq_true rfl), (Nat.le_of_ble_eq_true rfl)⟩ rfl (ct_Mo_in (fun hb => ?_) (fun hb hb2 => ?_))
  · skip
    refine jj_if_eq (tgt := 23) dd_Mo_recover_11 (by decide) (fun _ => ?_) (fun h => absurd h (by decide))
    refine jj_iconst (v := 0) dd_Mo_recover_23 rfl ?_
    refine jj_iret dd_Mo_recover_24 rfl rfl ?_
    exact ⟨_, hS, hQ⟩
  · skip
    exact absurd hx (fun h => h.elim hb hb2)
set_option maxRecDepth 20000 in
theorem cs_Mo_fail {l : Launch} {g : Nat → Nat} {S : ss_} {Q : Option Value → ss_ → Prop} {t : Nat} {x z : Int32} {F : Nat → Nat → Int32} (hF : uf_ S.1 60 1 0 = F) (ht : t < 3) (hx : ¬ x < 0) (hx2 : ¬ 20 < x) (hz : z = 0 ∨ z = 1) (hQ : Q (some (.int 1)) (uf_ (uf_ F 81 t x) 82 t z, S.2)) : cs_ l yy_Mo_fail bb_Mo_fail 4 (some .boolean) 1 0 0 g [.ref (g 60), .int (nI t), .int x, .int z] S Q := by
  intro M hS
  refine ct_of (by decide) (Nat.le_of_ble_eq_true rfl) (fun G A => ?_)
  refine jj_aload_n 0 dd_Mo_fail_0 rfl ?_
  refine jj_iconst (v := 0) dd_Mo_fail_1 rfl ?_
  refine jj_pS hS dd_Mo_fail_2 ⟨ff_Mo_93, rfl⟩ rfl (fun _ => rfl) ⟨rfl, rfl⟩ (fun M hS => ?_)
  rw [hF] at hS
  refine jj_iload_n 1 dd_Mo_fail_5 rfl ?_
  refine jj_iconst (v := 0) dd_Mo_fail_6 rfl ?_
  refine jj_iconst (v := 2) dd_Mo_fail_7 rfl ?_
  refine jj_callS [_, _, _] [] 0 0 dd_Mo_fail_8 cs_Mo_127 ci_Mo_127 rfl (Nat.le_of_ble_eq_true rfl) ⟨(Nat.le_of_ble_eq_true rfl), (Nat.le_of_ble_eq_true rfl)⟩ ⟨(Nat.le_of_ble_eq_true rfl), (Nat.le_of_ble_eq_true rfl)⟩ rfl (ct_Mo_in (fun hb => ?_) (fun hb hb2 => ?_))
  · skip
    exact absurd hb (nc_ (n := 2) (by decide) (by omega) (by decide))
  · skip
    refine jj_if_eq (tgt := 24) dd_Mo_fail_11 (by decide) (fun h => absurd h (by decide)) (fun _ => ?_)
    refine jj_iload_n 2 dd_Mo_fail_14 rfl ?_
    refine jj_iconst (v := 0) dd_Mo_fail_15 rfl ?_
    refine jj_bipush (v := 20) dd_Mo_fail_16 rfl ?_
    refine jj_callS [_, _, _] [] 0 0 dd_Mo_fail_18 cs_Mo_127 ci_Mo_127 rfl (Nat.le_of_ble_eq_true rfl) ⟨(Nat.le_of_ble_eq_true rfl), (Nat.le_of_ble_eq_true rfl)⟩ ⟨(Nat.le_of_ble_eq_true rfl), (Nat.le_of_ble_eq_true rfl)⟩ rfl (ct_Mo_in (fun hb => ?_) (fun hb hb2 => ?_))
    · skip
      exact absurd hb (fun h => h.elim hx hx2)
    · skip
      refine jj_if_ne (tgt := 26) dd_Mo_fail_21 (by decide) (fun _ => ?_) (fun h => absurd h (by decide))
      refine jj_aload_n 0 dd_Mo_fail_26 rfl ?_
      refine jj_rS (n := 81) hS dd_Mo_fail_27 ff_Mo_60 rfl (fun _ => rfl) rfl ?_
      refine jj_iload_n 1 dd_Mo_fail_30 rfl ?_
      refine jj_iload_n 2 dd_Mo_fail_31 rfl ?_
      refine jj_asS hS dd_Mo_fail_32 rfl (vp_in_nI (n := t) (by omega) (by decide)) (t) (nI_clamp (n := t) (by omega)) (fun M hS => ?_)
      refine jj_aload_n 0 dd_Mo_fail_33 rfl ?_
      refine jj_rS (n := 82) hS dd_Mo_fail_34 ff_Mo_63 rfl (fun _ => rfl) rfl ?_
      refine jj_iload_n 1 dd_Mo_fail_37 rfl ?_
      refine jj_iload_n 3 dd_Mo_fail_38 rfl ?_
      refine jj_zsS hS dd_Mo_fail_39 rfl (vp_in_nI (n := t) (by omega) (by decide)) (mm_bl hz).1 (t) (nI_clamp (n := t) (by omega)) (fun M hS => ?_)
      refine jj_iconst (v := 1) dd_Mo_fail_40 rfl ?_
      refine jj_iret dd_Mo_fail_41 rfl rfl ?_
      exact ⟨_, hS, hQ⟩
set_option maxRecDepth 20000 in
theorem cs_Mo_fail0 {l : Launch} {g : Nat → Nat} {S : ss_} {Q : Option Value → ss_ → Prop} {u v z : Int32} {F : Nat → Nat → Int32} (hF : uf_ S.1 60 1 0 = F) (hx : (u < 0 ∨ 2 < u) ∨ (v < 0 ∨ 20 < v)) (hQ : Q (some (.int 0)) (F, S.2)) : cs_ l yy_Mo_fail bb_Mo_fail 4 (some .boolean) 1 0 0 g [.ref (g 60), .int u, .int v, .int z] S Q := by
  intro M hS
  refine ct_of (by decide) (Nat.le_of_ble_eq_true rfl) (fun G A => ?_)
  refine jj_aload_n 0 dd_Mo_fail_0 rfl ?_
  refine jj_iconst (v := 0) dd_Mo_fail_1 rfl ?_
  refine jj_pS hS dd_Mo_fail_2 ⟨ff_Mo_93, rfl⟩ rfl (fun _ => rfl) ⟨rfl, rfl⟩ (fun M hS => ?_)
  rw [hF] at hS
  refine jj_iload_n 1 dd_Mo_fail_5 rfl ?_
  refine jj_iconst (v := 0) dd_Mo_fail_6 rfl ?_
  refine jj_iconst (v := 2) dd_Mo_fail_7 rfl ?_
  refine jj_callS [_, _, _] [] 0 0 dd_Mo_fail_8 cs_Mo_127 ci_Mo_127 rfl (Nat.le_of_ble_eq_true rfl) ⟨(Nat.le_of_ble_eq_true rfl), (Nat.le_of_ble_eq_true rfl)⟩ ⟨(Nat.le_of_ble_eq_true rfl), (Nat.le_of_ble_eq_true rfl)⟩ rfl (ct_Mo_in (fun hb => ?_) (fun hb hb2 => ?_))
  · skip
    refine jj_if_eq (tgt := 24) dd_Mo_fail_11 (by decide) (fun _ => ?_) (fun h => absurd h (by decide))
    refine jj_iconst (v := 0) dd_Mo_fail_24 rfl ?_
    refine jj_iret dd_Mo_fail_25 rfl rfl ?_
    exact ⟨_, hS, hQ⟩
  · skip
    have hv := hx.resolve_left (fun h => h.elim hb hb2)
    refine jj_if_eq (tgt := 24) dd_Mo_fail_11 (by decide) (fun h => absurd h (by decide)) (fun _ => ?_)
    refine jj_iload_n 2 dd_Mo_fail_14 rfl ?_
    refine jj_iconst (v := 0) dd_Mo_fail_15 rfl ?_
    refine jj_bipush (v := 20) dd_Mo_fail_16 rfl ?_
    refine jj_callS [_, _, _] [] 0 0 dd_Mo_fail_18 cs_Mo_127 ci_Mo_127 rfl (Nat.le_of_ble_eq_true rfl) ⟨(Nat.le_of_ble_eq_true rfl), (Nat.le_of_ble_eq_true rfl)⟩ ⟨(Nat.le_of_ble_eq_true rfl), (Nat.le_of_ble_eq_true rfl)⟩ rfl (ct_Mo_in (fun hb => ?_) (fun hb hb2 => ?_))
    · skip
      refine jj_if_ne (tgt := 26) dd_Mo_fail_21 (by decide) (fun h => absurd h (by decide)) (fun _ => ?_)
      refine jj_iconst (v := 0) dd_Mo_fail_24 rfl ?_
      refine jj_iret dd_Mo_fail_25 rfl rfl ?_
      exact ⟨_, hS, hQ⟩
    · skip
      exact absurd hv (fun h => h.elim hb hb2)
set_option maxRecDepth 20000 in
theorem cs_Mo_failOracle {l : Launch} {g : Nat → Nat} {S : ss_} {Q : Option Value → ss_ → Prop} {F : Nat → Nat → Int32} (hF : uf_ S.1 60 1 0 = F) (hQ : Q (some (.int (F 60 4 + 1))) (uf_ F 60 3 (F 60 4 + 1), S.2)) : cs_ l yy_Mo_failOracle bb_Mo_failOracle 1 (some .int) 0 0 0 g [.ref (g 60)] S Q := by
  intro M hS
  refine ct_of (by decide) (Nat.le_of_ble_eq_true rfl) (fun G A => ?_)
  refine jj_aload_n 0 dd_Mo_failOracle_0 rfl ?_
  refine jj_iconst (v := 0) dd_Mo_failOracle_1 rfl ?_
  refine jj_pS hS dd_Mo_failOracle_2 ⟨ff_Mo_93, rfl⟩ rfl (fun _ => rfl) ⟨rfl, rfl⟩ (fun M hS => ?_)
  rw [hF] at hS
  refine jj_aload_n 0 dd_Mo_failOracle_5 rfl ?_
  refine jj_aload_n 0 dd_Mo_failOracle_6 rfl ?_
  refine jj_gS hS dd_Mo_failOracle_7 ff_Mo_96 rfl (fun _ => rfl) ?_
  refine jj_iconst (v := 1) dd_Mo_failOracle_10 rfl ?_
  refine jj_iadd dd_Mo_failOracle_11 ?_
  refine jj_pS hS dd_Mo_failOracle_12 ⟨ff_Mo_7, rfl⟩ rfl (fun _ => rfl) ⟨rfl, rfl⟩ (fun M hS => ?_)
  refine jj_aload_n 0 dd_Mo_failOracle_15 rfl ?_
  refine jj_gS hS dd_Mo_failOracle_16 ff_Mo_7 rfl (fun _ => rfl) ?_
  refine jj_iret dd_Mo_failOracle_19 rfl rfl ?_
  refine ⟨_, hS, ?_⟩
  simpa [uf_at] using hQ
