theorem dx_mono {F : Nat → Nat → Int32} {c : Nat} {K K' : Int32 → (Nat → Nat → Int32) → Prop} (hK : ∀ r F1, K r F1 → K' r F1) (h : dx_ F c K) : dx_ F c K' := by
  revert h
  unfold dx_
  repeat' first | with_reducible refine mm_itm (fun _ => ?_) (fun _ => ?_) | with_reducible exact hK _ _
theorem fx_mono {F : Nat → Nat → Int32} {c i : Nat} {K K' : Int32 → (Nat → Nat → Int32) → Prop} (hK : ∀ r F1, K r F1 → K' r F1) (h : fx_ F c i K) : fx_ F c i K' := by
  revert h
  unfold fx_
  repeat' first | with_reducible refine mm_itm (fun _ => ?_) (fun _ => ?_) | with_reducible exact hK _ _
theorem pc_mono {F : Nat → Nat → Int32} {c i : Nat} {K K' : Int32 → (Nat → Nat → Int32) → Prop} (hK : ∀ r F1, K r F1 → K' r F1) (h : pc_ F c i K) : pc_ F c i K' := by
  revert h
  unfold pc_
  repeat' first | with_reducible refine mm_itm (fun _ => ?_) (fun _ => ?_) | with_reducible exact hK _ _
theorem de_mono {F : Nat → Nat → Int32} {c : Nat} {K K' : Int32 → (Nat → Nat → Int32) → Prop} (hK : ∀ r F1, K r F1 → K' r F1) (h : de_ F c K) : de_ F c K' := by
  revert h
  unfold de_
  repeat' first | with_reducible refine mm_itm (fun _ => ?_) (fun _ => ?_) | with_reducible exact hK _ _ | exact dx_mono hK
theorem fo_mono {F : Nat → Nat → Int32} {c : Nat} {K K' : Int32 → (Nat → Nat → Int32) → Prop} (hK : ∀ r F1, K r F1 → K' r F1) (h : fo_ F c K) : fo_ F c K' := by
  revert h
  unfold fo_
  repeat' first | with_reducible refine mm_itm (fun _ => ?_) (fun _ => ?_) | with_reducible exact hK _ _ | exact fx_mono hK
theorem pw_mono {F : Nat → Nat → Int32} {c i : Nat} {K K' : Int32 → (Nat → Nat → Int32) → Prop} (hK : ∀ r F1, K r F1 → K' r F1) (h : pw_ F c i K) : pw_ F c i K' := by
  revert h
  unfold pw_
  repeat' first | with_reducible refine mm_itm (fun _ => ?_) (fun _ => ?_) | with_reducible exact hK _ _ | with_reducible exact pc_mono hK | with_reducible refine cl_mono (fun _ _ => ?_)
def sq_ (F : Nat → Nat → Int32) (c : Nat) (K : Int32 → (Nat → Nat → Int32) → Prop) : Prop :=
  if F 87 (12 * c + fi_ F c) = 0 then K 7 (uf_ F 83 c 0)
  else if 12 ≤ nI (nx_ F c 0) then
    if F 85 c = 0 then K 2 (uf_ (ho_F F) 85 c (F 60 3 + 1 - 1)) else if F 86 c = 0 then de_ F c K else fo_ F c K
  else pw_ F c (nx_ F c 0) K
def tb_ (F : Nat → Nat → Int32) (t : Nat) (y : Int32) (K : Int32 → (Nat → Nat → Int32) → Prop) : Prop := if y = 0 then K (F 79 t) F else if y = 2 then K (F 80 t) F else if F 77 t = 0 then K (F 78 t) F else K (-1) F
def oc_ (F : Nat → Nat → Int32) (y : Int32) (K : Int32 → (Nat → Nat → Int32) → Prop) : Prop := if y = 0 then K (F 60 3) F else if y = 1 then K (F 60 4) F else if y = 2 then K (F 60 2) F else K (-1) F
def lk_ (F : Nat → Nat → Int32) (i : Nat) (y : Int32) (K : Int32 → (Nat → Nat → Int32) → Prop) : Prop :=
  if F 65 i = 0 then K (-1) F
  else if F 77 (i / 4) = 0 then
    if 3 ≤ y then
      if y = 3 then K (F 68 i) F
      else if y = 4 then (if ls_ F i (on_ F i) = 0 then K 0 F else K 1 F)
      else if F 69 i = 1 then K (F 70 i) F else K 0 F
    else if y = 0 then K (F 65 i) F else if y = 1 then K (F 66 i) F else K (F 67 i) F
  else K (-1) F
def tr_go (F : Nat → Nat → Int32) (c : Nat) (y : Int32) : Nat → Nat → Int32 → Int32
  | 0, _, z => z
  | n + 1, k, z => tr_go F c y n (k + 1) (if y = 3 then (if F 87 (12 * c + k) ≤ 0 then z else z + ((1 : Int32) <<< (nI k &&& 31))) else (if F 89 (12 * c + k) = 0 then z else z + ((1 : Int32) <<< (nI k &&& 31))))
def ta_ (F : Nat → Nat → Int32) (c : Nat) (y : Int32) (z : Int32) (K : Int32 → (Nat → Nat → Int32) → Prop) : Prop :=
  if y = 0 then K (F 83 c) F else if y = 1 then K (F 84 c) F else if y = 2 then K (F 85 c) F else if 5 ≤ y then (if F 86 c = 0 then K 0 F else K 1 F) else K z F
set_option maxRecDepth 20000 in
theorem cs_Mo_step {l : Launch} {g : Nat → Nat} {S : ss_} {Q : Option Value → ss_ → Prop} {c : Nat} {F : Nat → Nat → Int32} (hF : uf_ S.1 60 1 0 = F) {F1 : Nat → Nat → Int32} (hF1 : uf_ F 83 c 2 = F1) (hc : c < 4) (hok : ok_ F1) (hn : ¬ F1 86 c = 0 → nx_ F1 c 1 < 12) (hr : F1 60 11 = nI (rec_ F1)) (hr2 : rec_ F1 < 1538) (hQ : if F 83 c = 0 then Q (some (.int 0)) (uf_ F 60 1 2, S.2) else sq_ (uf_ F 83 c 2) c (fun r F => Q (some (.int r)) (F, S.2))) : cs_ l yy_Mo_step bb_Mo_step 3 (some .int) 4 0 0 g [.ref (g 60), .int (nI c)] S Q := by
  intro M hS
  refine ct_of (by decide) (Nat.le_of_ble_eq_true rfl) (fun G A => ?_)
  refine jj_aload_n 0 dd_Mo_step_0 rfl ?_
  refine jj_iconst (v := 0) dd_Mo_step_1 rfl ?_
  refine jj_pS hS dd_Mo_step_2 ⟨ff_Mo_93, rfl⟩ rfl (fun _ => rfl) ⟨rfl, rfl⟩ (fun M hS => ?_)
  rw [hF] at hS
  refine jj_aload_n 0 dd_Mo_step_5 rfl ?_
  refine jj_iload_n 1 dd_Mo_step_6 rfl ?_
  refine jj_callV (ci := 7) [_] [] 0 0 dd_Mo_step_7 cs_Mo_131 ci_Mo_131 (hS.1.1 60 _ rfl) ⟨by decide, rfl⟩ rfl (Nat.le_of_ble_eq_true rfl) ⟨(Nat.le_of_ble_eq_true rfl), (Nat.le_of_ble_eq_true rfl)⟩ ⟨(Nat.le_of_ble_eq_true rfl), (Nat.le_of_ble_eq_true rfl)⟩ rfl (ct_Mo_isClient (fun hb => ?_) (fun hb hb2 => ?_))
  · skip
    exact absurd hb (nc_ (n := 3) (by decide) (by omega) (by decide))
  · skip
    refine jj_if_ne (tgt := 19) dd_Mo_step_10 (by decide) (fun _ => ?_) (fun h => absurd h (by decide))
    refine jj_aload_n 0 dd_Mo_step_19 rfl ?_
    refine jj_rS (n := 83) hS dd_Mo_step_20 ff_Mo_66 rfl (fun _ => rfl) rfl ?_
    refine jj_iload_n 1 dd_Mo_step_23 rfl ?_
    refine jj_aS hS dd_Mo_step_24 rfl (vp_in_nI (n := c) (by omega) (by decide)) (c) (nI_clamp (n := c) (by omega)) ?_
    refine jj_if_ne (tgt := 34) dd_Mo_step_25 (by decide) (fun h25 => ?_) (fun h25 => ?_)
    · skip
      refine jj_aload_n 0 dd_Mo_step_34 rfl ?_
      refine jj_rS (n := 83) hS dd_Mo_step_35 ff_Mo_66 rfl (fun _ => rfl) rfl ?_
      refine jj_iload_n 1 dd_Mo_step_38 rfl ?_
      refine jj_iconst (v := 2) dd_Mo_step_39 rfl ?_
      refine jj_asS hS dd_Mo_step_40 rfl (vp_in_nI (n := c) (by omega) (by decide)) (c) (nI_clamp (n := c) (by omega)) (fun M hS => ?_)
      replace hS : rp_ g M (F1, S.2) := by rw [← hF1]; exact hS
      rw [if_neg h25] at hQ
      rw [hF1] at hQ
      have hfi : fi_ F1 c ≤ 11 := fi_le F1 c 11 0
      unfold sq_ at hQ
      refine jj_aload_n 0 dd_Mo_step_41 rfl ?_
      refine jj_rS (n := 87) hS dd_Mo_step_42 ff_Mo_78 rfl (fun _ => rfl) rfl ?_
      refine jj_bipush (v := 12) dd_Mo_step_45 rfl ?_
      refine jj_iload_n 1 dd_Mo_step_47 rfl ?_
      refine jj_imul dd_Mo_step_48 ?_
      refine jj_ti (x' := nI (12 * c)) (pk_mul (12) (c)) ?_
      refine jj_aload_n 0 dd_Mo_step_49 rfl ?_
      refine jj_iload_n 1 dd_Mo_step_50 rfl ?_
      refine jj_callV (ci := 7) [_] [_, .ref (g 87)] 0 0 dd_Mo_step_51 cs_Mo_155 ci_Mo_155 (hS.1.1 60 _ rfl) ⟨by decide, rfl⟩ rfl (Nat.le_of_ble_eq_true rfl) ⟨(Nat.le_of_ble_eq_true rfl), (Nat.le_of_ble_eq_true rfl)⟩ ⟨(Nat.le_of_ble_eq_true rfl), (Nat.le_of_ble_eq_true rfl)⟩ rfl (cs_use (cs_Mo_first (S := (F1, S.2)) (c := c) hc (fun M hS => ?_)) hS)
      refine jj_iadd dd_Mo_step_54 ?_
      refine jj_ti (x' := nI ((12 * c) + (fi_ F1 c))) (nI_add (12 * c) (fi_ F1 c)) ?_
      refine jj_aS hS dd_Mo_step_55 rfl (vp_in_nI (n := (12 * c) + (fi_ F1 c)) (by omega) (by decide)) ((12 * c) + (fi_ F1 c)) (nI_clamp (n := (12 * c) + (fi_ F1 c)) (by omega)) ?_
      refine jj_if_ne (tgt := 67) dd_Mo_step_56 (by decide) (fun h56 => ?_) (fun h56 => ?_)
      · skip
        refine jj_aload_n 0 dd_Mo_step_67 rfl ?_
        refine jj_iload_n 1 dd_Mo_step_68 rfl ?_
        refine jj_iconst (v := 0) dd_Mo_step_69 rfl ?_
        refine jj_callV (ci := 7) [_, _] [] 0 0 dd_Mo_step_70 cs_Mo_161 ci_Mo_161 (hS.1.1 60 _ rfl) ⟨by decide, rfl⟩ rfl (Nat.le_of_ble_eq_true rfl) ⟨(Nat.le_of_ble_eq_true rfl), (Nat.le_of_ble_eq_true rfl)⟩ ⟨(Nat.le_of_ble_eq_true rfl), (Nat.le_of_ble_eq_true rfl)⟩ rfl (cs_use (cs_Mo_nextCell (S := (F1, S.2)) (c := c) hc (fun M hS => ?_)) hS)
        refine jj_istore_n (lv' := [(2, .int (nI (nx_ F1 c 0))), (0, .ref (g 60)), (1, .int (nI (c)))]) dd_Mo_step_73 (Nat.le_of_ble_eq_true rfl) rfl ?_
        refine jj_iload_n 0 dd_Mo_step_74 rfl ?_
        refine jj_bipush (v := 12) dd_Mo_step_75 rfl ?_
        refine jj_icmp_ge (tgt := 87) dd_Mo_step_77 (by decide) (fun h77 => ?_) (fun h77 => ?_)
        · skip
          refine jj_aload_n 1 dd_Mo_step_87 rfl ?_
          refine jj_rS (n := 85) hS dd_Mo_step_88 ff_Mo_72 rfl (fun _ => rfl) rfl ?_
          refine jj_iload_n 2 dd_Mo_step_91 rfl ?_
          refine jj_aS hS dd_Mo_step_92 rfl (vp_in_nI (n := c) (by omega) (by decide)) (c) (nI_clamp (n := c) (by omega)) ?_
          refine jj_if_ne (tgt := 108) dd_Mo_step_93 (by decide) (fun h93 => ?_) (fun h93 => ?_)
          · skip
            refine jj_aload_n 1 dd_Mo_step_108 rfl ?_
            refine jj_rS (n := 86) hS dd_Mo_step_109 ff_Mo_75 rfl (fun _ => rfl) rfl ?_
            refine jj_iload_n 2 dd_Mo_step_112 rfl ?_
            refine jj_zS hS dd_Mo_step_113 rfl (vp_in_nI (n := c) (by omega) (by decide)) (c) (nI_clamp (n := c) (by omega)) ?_
            refine jj_if_eq (tgt := 125) dd_Mo_step_114 (by decide) (fun h114 => ?_) (fun h114 => ?_)
            · skip
              refine jj_aload_n 1 dd_Mo_step_125 rfl ?_
              refine jj_iload_n 2 dd_Mo_step_126 rfl ?_
              rw [if_neg h56, if_pos h77, if_neg h93, if_pos h114] at hQ
              refine jj_callV (ci := 7) [_] [] 0 0 dd_Mo_step_127 cs_Mo_171 ci_Mo_171 (hS.1.1 60 _ rfl) ⟨by decide, rfl⟩ rfl (Nat.le_of_ble_eq_true rfl) ⟨(Nat.le_of_ble_eq_true rfl), (Nat.le_of_ble_eq_true rfl)⟩ ⟨(Nat.le_of_ble_eq_true rfl), (Nat.le_of_ble_eq_true rfl)⟩ rfl (cs_use (cs_Mo_decide (S := (F1, S.2)) hc hr hr2 (de_mono (fun r F2 hQ => ?_) hQ)) hS)
              intro M hS
              refine jj_iret dd_Mo_step_130 rfl rfl ?_
              exact ⟨_, hS, hQ⟩
            · skip
              refine jj_aload_n 1 dd_Mo_step_117 rfl ?_
              refine jj_iload_n 2 dd_Mo_step_118 rfl ?_
              rw [if_neg h56, if_pos h77, if_neg h93, if_neg h114] at hQ
              refine jj_callV (ci := 7) [_] [] 0 0 dd_Mo_step_119 cs_Mo_168 ci_Mo_168 (hS.1.1 60 _ rfl) ⟨by decide, rfl⟩ rfl (Nat.le_of_ble_eq_true rfl) ⟨(Nat.le_of_ble_eq_true rfl), (Nat.le_of_ble_eq_true rfl)⟩ ⟨(Nat.le_of_ble_eq_true rfl), (Nat.le_of_ble_eq_true rfl)⟩ rfl (cs_use (cs_Mo_follow (S := (F1, S.2)) hc (hn h114) hr hr2 (fo_mono (fun r F2 hQ => ?_) hQ)) hS)
              intro M hS
              refine jj_goto (tgt := 130) dd_Mo_step_122 (by decide) ?_
              refine jj_iret dd_Mo_step_130 rfl rfl ?_
              exact ⟨_, hS, hQ⟩
          · skip
            refine jj_aload_n 1 dd_Mo_step_96 rfl ?_
            refine jj_rS (n := 85) hS dd_Mo_step_97 ff_Mo_72 rfl (fun _ => rfl) rfl ?_
            refine jj_iload_n 2 dd_Mo_step_100 rfl ?_
            refine jj_aload_n 1 dd_Mo_step_101 rfl ?_
            refine jj_callV (ci := 7) [] [_, .ref (g 85)] 0 0 dd_Mo_step_102 cs_Mo_138 ci_Mo_138 (hS.1.1 60 _ rfl) ⟨by decide, rfl⟩ rfl (Nat.le_of_ble_eq_true rfl) ⟨(Nat.le_of_ble_eq_true rfl), (Nat.le_of_ble_eq_true rfl)⟩ ⟨(Nat.le_of_ble_eq_true rfl), (Nat.le_of_ble_eq_true rfl)⟩ rfl (cs_use (cs_Mo_handOut (fun M hS => ?_)) hS)
            refine jj_asS hS dd_Mo_step_105 rfl (vp_in_nI (n := c) (by omega) (by decide)) (c) (nI_clamp (n := c) (by omega)) (fun M hS => ?_)
            refine jj_iconst (v := 2) dd_Mo_step_106 rfl ?_
            refine jj_iret dd_Mo_step_107 rfl rfl ?_
            rw [if_neg h56, if_pos h77, if_pos h93] at hQ
            exact ⟨_, hS, hQ⟩
        · skip
          refine jj_aload_n 1 dd_Mo_step_80 rfl ?_
          refine jj_iload_n 2 dd_Mo_step_81 rfl ?_
          refine jj_iload_n 0 dd_Mo_step_82 rfl ?_
          rw [if_neg h56, if_neg h77] at hQ
          refine jj_callV (ci := 7) [_, _] [] 0 0 dd_Mo_step_83 cs_Mo_165 ci_Mo_165 (hS.1.1 60 _ rfl) ⟨by decide, rfl⟩ rfl (Nat.le_of_ble_eq_true rfl) ⟨(Nat.le_of_ble_eq_true rfl), (Nat.le_of_ble_eq_true rfl)⟩ ⟨(Nat.le_of_ble_eq_true rfl), (Nat.le_of_ble_eq_true rfl)⟩ rfl (cs_use (cs_Mo_prewrite (S := (F1, S.2)) hc (Nat.not_le.mp fun h => h77 (nI_le (a := 12) h (by have := nx_le F1 c 0 (fi_ F1 c) 12 0 (by omega); show nx_go F1 c 0 (fi_ F1 c) 12 0 < 2 ^ 31; omega))) hok hr hr2 (pw_mono (fun r F2 hQ => ?_) hQ)) hS)
          intro M hS
          refine jj_iret dd_Mo_step_86 rfl rfl ?_
          exact ⟨_, hS, hQ⟩
      · skip
        refine jj_aload_n 0 dd_Mo_step_59 rfl ?_
        refine jj_iload_n 1 dd_Mo_step_60 rfl ?_
        refine jj_bipush (v := 7) dd_Mo_step_61 rfl ?_
        refine jj_callV (ci := 7) [_, _] [] 0 0 dd_Mo_step_63 cs_Mo_158 ci_Mo_158 (hS.1.1 60 _ rfl) ⟨by decide, rfl⟩ rfl (Nat.le_of_ble_eq_true rfl) ⟨(Nat.le_of_ble_eq_true rfl), (Nat.le_of_ble_eq_true rfl)⟩ ⟨(Nat.le_of_ble_eq_true rfl), (Nat.le_of_ble_eq_true rfl)⟩ rfl (cs_use (cs_Mo_ends (c := c) hc (fun M hS => ?_)) hS)
        refine jj_iret dd_Mo_step_66 rfl rfl ?_
        rw [if_pos h56] at hQ
        exact ⟨_, hS, hQ⟩
    · skip
      refine jj_aload_n 0 dd_Mo_step_28 rfl ?_
      refine jj_iconst (v := 2) dd_Mo_step_29 rfl ?_
      refine jj_callV (ci := 7) [_] [] 0 0 dd_Mo_step_30 cs_Mo_134 ci_Mo_134 (hS.1.1 60 _ rfl) ⟨by decide, rfl⟩ rfl (Nat.le_of_ble_eq_true rfl) ⟨(Nat.le_of_ble_eq_true rfl), (Nat.le_of_ble_eq_true rfl)⟩ ⟨(Nat.le_of_ble_eq_true rfl), (Nat.le_of_ble_eq_true rfl)⟩ rfl (cs_use (cs_Mo_fails (fun M hS => ?_)) hS)
      refine jj_iret dd_Mo_step_33 rfl rfl ?_
      rw [if_pos h25] at hQ
      exact ⟨_, hS, hQ⟩
set_option maxRecDepth 20000 in
theorem cs_Mo_step0 {l : Launch} {g : Nat → Nat} {S : ss_} {Q : Option Value → ss_ → Prop} {x : Int32} {F : Nat → Nat → Int32} (hF : uf_ S.1 60 1 0 = F) (hx : x < 0 ∨ 3 < x) (hQ : Q (some (.int 0)) (uf_ F 60 1 1, S.2)) : cs_ l yy_Mo_step bb_Mo_step 3 (some .int) 4 0 0 g [.ref (g 60), .int x] S Q := by
  intro M hS
  refine ct_of (by decide) (Nat.le_of_ble_eq_true rfl) (fun G A => ?_)
  refine jj_aload_n 0 dd_Mo_step_0 rfl ?_
  refine jj_iconst (v := 0) dd_Mo_step_1 rfl ?_
  refine jj_pS hS dd_Mo_step_2 ⟨ff_Mo_93, rfl⟩ rfl (fun _ => rfl) ⟨rfl, rfl⟩ (fun M hS => ?_)
  rw [hF] at hS
  refine jj_aload_n 0 dd_Mo_step_5 rfl ?_
  refine jj_iload_n 1 dd_Mo_step_6 rfl ?_
  refine jj_callV (ci := 7) [_] [] 0 0 dd_Mo_step_7 cs_Mo_131 ci_Mo_131 (hS.1.1 60 _ rfl) ⟨by decide, rfl⟩ rfl (Nat.le_of_ble_eq_true rfl) ⟨(Nat.le_of_ble_eq_true rfl), (Nat.le_of_ble_eq_true rfl)⟩ ⟨(Nat.le_of_ble_eq_true rfl), (Nat.le_of_ble_eq_true rfl)⟩ rfl (ct_Mo_isClient (fun hb => ?_) (fun hb hb2 => ?_))
  · skip
    refine jj_if_ne (tgt := 19) dd_Mo_step_10 (by decide) (fun h => absurd h (by decide)) (fun _ => ?_)
    refine jj_aload_n 0 dd_Mo_step_13 rfl ?_
    refine jj_iconst (v := 1) dd_Mo_step_14 rfl ?_
    refine jj_callV (ci := 7) [_] [] 0 0 dd_Mo_step_15 cs_Mo_134 ci_Mo_134 (hS.1.1 60 _ rfl) ⟨by decide, rfl⟩ rfl (Nat.le_of_ble_eq_true rfl) ⟨(Nat.le_of_ble_eq_true rfl), (Nat.le_of_ble_eq_true rfl)⟩ ⟨(Nat.le_of_ble_eq_true rfl), (Nat.le_of_ble_eq_true rfl)⟩ rfl (cs_use (cs_Mo_fails (fun M hS => ?_)) hS)
    refine jj_iret dd_Mo_step_18 rfl rfl ?_
    exact ⟨_, hS, hQ⟩
  · skip
    exact absurd hx (fun h => h.elim hb hb2)
set_option maxRecDepth 20000 in
theorem cs_Mo_tablet {l : Launch} {g : Nat → Nat} {S : ss_} {Q : Option Value → ss_ → Prop} {t : Nat} {y : Int32} {F : Nat → Nat → Int32} (hF : uf_ S.1 60 1 0 = F) (ht : t < 3) (hy : ¬ y < 0) (hy2 : ¬ 2 < y) (hQ : tb_ F t y (fun r F => Q (some (.int r)) (F, S.2))) : cs_ l yy_Mo_tablet bb_Mo_tablet 3 (some .int) 1 0 0 g [.ref (g 60), .int (nI t), .int y] S Q := by
  intro M hS
  refine ct_of (by decide) (Nat.le_of_ble_eq_true rfl) (fun G A => ?_)
  unfold tb_ at hQ
  refine jj_aload_n 0 dd_Mo_tablet_0 rfl ?_
  refine jj_iconst (v := 0) dd_Mo_tablet_1 rfl ?_
  refine jj_pS hS dd_Mo_tablet_2 ⟨ff_Mo_93, rfl⟩ rfl (fun _ => rfl) ⟨rfl, rfl⟩ (fun M hS => ?_)
  rw [hF] at hS
  refine jj_iload_n 1 dd_Mo_tablet_5 rfl ?_
  refine jj_iconst (v := 0) dd_Mo_tablet_6 rfl ?_
  refine jj_iconst (v := 2) dd_Mo_tablet_7 rfl ?_
  refine jj_callS [_, _, _] [] 0 0 dd_Mo_tablet_8 cs_Mo_127 ci_Mo_127 rfl (Nat.le_of_ble_eq_true rfl) ⟨(Nat.le_of_ble_eq_true rfl), (Nat.le_of_ble_eq_true rfl)⟩ ⟨(Nat.le_of_ble_eq_true rfl), (Nat.le_of_ble_eq_true rfl)⟩ rfl (ct_Mo_in (fun hb => ?_) (fun hb hb2 => ?_))
  · skip
    exact absurd hb (nc_ (n := 2) (by decide) (by omega) (by decide))
  · skip
    refine jj_if_eq (tgt := 23) dd_Mo_tablet_11 (by decide) (fun h => absurd h (by decide)) (fun _ => ?_)
    refine jj_iload_n 2 dd_Mo_tablet_14 rfl ?_
    refine jj_iconst (v := 0) dd_Mo_tablet_15 rfl ?_
    refine jj_iconst (v := 2) dd_Mo_tablet_16 rfl ?_
    refine jj_callS [_, _, _] [] 0 0 dd_Mo_tablet_17 cs_Mo_127 ci_Mo_127 rfl (Nat.le_of_ble_eq_true rfl) ⟨(Nat.le_of_ble_eq_true rfl), (Nat.le_of_ble_eq_true rfl)⟩ ⟨(Nat.le_of_ble_eq_true rfl), (Nat.le_of_ble_eq_true rfl)⟩ rfl (ct_Mo_in (fun hb => ?_) (fun hb hb2 => ?_))
    · skip
      exact absurd hb (fun h => h.elim hy hy2)
    · skip
      refine jj_if_ne (tgt := 25) dd_Mo_tablet_20 (by decide) (fun _ => ?_) (fun h => absurd h (by decide))
      refine jj_iload_n 2 dd_Mo_tablet_25 rfl ?_
      refine jj_if_ne (tgt := 38) dd_Mo_tablet_26 (by decide) (fun h26 => ?_) (fun h26 => ?_)
      · skip
        refine jj_iload_n 2 dd_Mo_tablet_38 rfl ?_
        refine jj_iconst (v := 2) dd_Mo_tablet_39 rfl ?_
        refine jj_icmp_ne (tgt := 52) dd_Mo_tablet_40 (by decide) (fun h40 => ?_) (fun h40 => ?_)
        · skip
          refine jj_aload_n 0 dd_Mo_tablet_52 rfl ?_
          refine jj_rS (n := 77) hS dd_Mo_tablet_53 ff_Mo_47 rfl (fun _ => rfl) rfl ?_
          refine jj_iload_n 1 dd_Mo_tablet_56 rfl ?_
          refine jj_zS hS dd_Mo_tablet_57 rfl (vp_in_nI (n := t) (by omega) (by decide)) (t) (nI_clamp (n := t) (by omega)) ?_
          refine jj_if_eq (tgt := 65) dd_Mo_tablet_58 (by decide) (fun h58 => ?_) (fun h58 => ?_)
          · skip
            refine jj_aload_n 0 dd_Mo_tablet_65 rfl ?_
            refine jj_rS (n := 78) hS dd_Mo_tablet_66 ff_Mo_51 rfl (fun _ => rfl) rfl ?_
            refine jj_iload_n 1 dd_Mo_tablet_69 rfl ?_
            refine jj_aS hS dd_Mo_tablet_70 rfl (vp_in_nI (n := t) (by omega) (by decide)) (t) (nI_clamp (n := t) (by omega)) ?_
            refine jj_iret dd_Mo_tablet_71 rfl rfl ?_
            rw [if_neg h26, if_neg h40, if_pos h58] at hQ
            exact ⟨_, hS, hQ⟩
          · skip
            refine jj_iconst (v := (-1)) dd_Mo_tablet_61 rfl ?_
            refine jj_goto (tgt := 71) dd_Mo_tablet_62 (by decide) ?_
            refine jj_iret dd_Mo_tablet_71 rfl rfl ?_
            rw [if_neg h26, if_neg h40, if_neg h58] at hQ
            exact ⟨_, hS, hQ⟩
        · skip
          refine jj_aload_n 0 dd_Mo_tablet_43 rfl ?_
          refine jj_rS (n := 80) hS dd_Mo_tablet_44 ff_Mo_57 rfl (fun _ => rfl) rfl ?_
          refine jj_iload_n 1 dd_Mo_tablet_47 rfl ?_
          refine jj_aS hS dd_Mo_tablet_48 rfl (vp_in_nI (n := t) (by omega) (by decide)) (t) (nI_clamp (n := t) (by omega)) ?_
          refine jj_goto (tgt := 71) dd_Mo_tablet_49 (by decide) ?_
          refine jj_iret dd_Mo_tablet_71 rfl rfl ?_
          rw [if_neg h26, if_pos h40] at hQ
          exact ⟨_, hS, hQ⟩
      · skip
        refine jj_aload_n 0 dd_Mo_tablet_29 rfl ?_
        refine jj_rS (n := 79) hS dd_Mo_tablet_30 ff_Mo_54 rfl (fun _ => rfl) rfl ?_
        refine jj_iload_n 1 dd_Mo_tablet_33 rfl ?_
        refine jj_aS hS dd_Mo_tablet_34 rfl (vp_in_nI (n := t) (by omega) (by decide)) (t) (nI_clamp (n := t) (by omega)) ?_
        refine jj_goto (tgt := 71) dd_Mo_tablet_35 (by decide) ?_
        refine jj_iret dd_Mo_tablet_71 rfl rfl ?_
        rw [if_pos h26] at hQ
        exact ⟨_, hS, hQ⟩
set_option maxRecDepth 20000 in
theorem cs_Mo_tablet0 {l : Launch} {g : Nat → Nat} {S : ss_} {Q : Option Value → ss_ → Prop} {u v : Int32} {F : Nat → Nat → Int32} (hF : uf_ S.1 60 1 0 = F) (hx : (u < 0 ∨ 2 < u) ∨ (v < 0 ∨ 2 < v)) (hQ : Q (some (.int (-1))) (F, S.2)) : cs_ l yy_Mo_tablet bb_Mo_tablet 3 (some .int) 1 0 0 g [.ref (g 60), .int u, .int v] S Q := by
  intro M hS
  refine ct_of (by decide) (Nat.le_of_ble_eq_true rfl) (fun G A => ?_)
  refine jj_aload_n 0 dd_Mo_tablet_0 rfl ?_
  refine jj_iconst (v := 0) dd_Mo_tablet_1 rfl ?_
  refine jj_pS hS dd_Mo_tablet_2 ⟨ff_Mo_93, rfl⟩ rfl (fun _ => rfl) ⟨rfl, rfl⟩ (fun M hS => ?_)
  rw [hF] at hS
  refine jj_iload_n 1 dd_Mo_tablet_5 rfl ?_
  refine jj_iconst (v := 0) dd_Mo_tablet_6 rfl ?_
  refine jj_iconst (v := 2) dd_Mo_tablet_7 rfl ?_
  refine jj_callS [_, _, _] [] 0 0 dd_Mo_tablet_8 cs_Mo_127 ci_Mo_127 rfl (Nat.le_of_ble_eq_true rfl) ⟨(Nat.le_of_ble_eq_true rfl), (Nat.le_of_ble_eq_true rfl)⟩ ⟨(Nat.le_of_ble_eq_true rfl), (Nat.le_of_ble_eq_true rfl)⟩ rfl (ct_Mo_in (fun hb => ?_) (fun hb hb2 => ?_))
  · skip
    refine jj_if_eq (tgt := 23) dd_Mo_tablet_11 (by decide) (fun _ => ?_) (fun h => absurd h (by decide))
    refine jj_iconst (v := (-1)) dd_Mo_tablet_23 rfl ?_
    refine jj_iret dd_Mo_tablet_24 rfl rfl ?_
    exact ⟨_, hS, hQ⟩
  · skip
    have hv := hx.resolve_left (fun h => h.elim hb hb2)
    refine jj_if_eq (tgt := 23) dd_Mo_tablet_11 (by decide) (fun h => absurd h (by decide)) (fun _ => ?_)
    refine jj_iload_n 2 dd_Mo_tablet_14 rfl ?_
    refine jj_iconst (v := 0) dd_Mo_tablet_15 rfl ?_
    refine jj_iconst (v := 2) dd_Mo_tablet_16 rfl ?_
    refine jj_callS [_, _, _] [] 0 0 dd_Mo_tablet_17 cs_Mo_127 ci_Mo_127 rfl (Nat.le_of_ble_eq_true rfl) ⟨(Nat.le_of_ble_eq_true rfl), (Nat.le_of_ble_eq_true rfl)⟩ ⟨(Nat.le_of_ble_eq_true rfl), (Nat.le_of_ble_eq_true rfl)⟩ rfl (ct_Mo_in (fun hb => ?_) (fun hb hb2 => ?_))
    · skip
      refine jj_if_ne (tgt := 25) dd_Mo_tablet_20 (by decide) (fun h => absurd h (by decide)) (fun _ => ?_)
      refine jj_iconst (v := (-1)) dd_Mo_tablet_23 rfl ?_
      refine jj_iret dd_Mo_tablet_24 rfl rfl ?_
      exact ⟨_, hS, hQ⟩
    · skip
      exact absurd hv (fun h => h.elim hb hb2)
set_option maxRecDepth 20000 in
theorem cs_Mo_oracle {l : Launch} {g : Nat → Nat} {S : ss_} {Q : Option Value → ss_ → Prop} {y : Int32} {F : Nat → Nat → Int32} (hF : uf_ S.1 60 1 0 = F) (hQ : oc_ F y (fun r F => Q (some (.int r)) (F, S.2))) : cs_ l yy_Mo_oracle bb_Mo_oracle 2 (some .int) 0 0 0 g [.ref (g 60), .int y] S Q := by
  intro M hS
  refine ct_of (by decide) (Nat.le_of_ble_eq_true rfl) (fun G A => ?_)
  unfold oc_ at hQ
  refine jj_aload_n 0 dd_Mo_oracle_0 rfl ?_
  refine jj_iconst (v := 0) dd_Mo_oracle_1 rfl ?_
  refine jj_pS hS dd_Mo_oracle_2 ⟨ff_Mo_93, rfl⟩ rfl (fun _ => rfl) ⟨rfl, rfl⟩ (fun M hS => ?_)
  rw [hF] at hS
  refine jj_iload_n 1 dd_Mo_oracle_5 rfl ?_
  refine jj_if_ne (tgt := 16) dd_Mo_oracle_6 (by decide) (fun h6 => ?_) (fun h6 => ?_)
  · skip
    refine jj_iload_n 1 dd_Mo_oracle_16 rfl ?_
    refine jj_iconst (v := 1) dd_Mo_oracle_17 rfl ?_
    refine jj_icmp_ne (tgt := 28) dd_Mo_oracle_18 (by decide) (fun h18 => ?_) (fun h18 => ?_)
    · skip
      refine jj_iload_n 1 dd_Mo_oracle_28 rfl ?_
      refine jj_iconst (v := 2) dd_Mo_oracle_29 rfl ?_
      refine jj_icmp_ne (tgt := 40) dd_Mo_oracle_30 (by decide) (fun h30 => ?_) (fun h30 => ?_)
      · skip
        refine jj_iconst (v := (-1)) dd_Mo_oracle_40 rfl ?_
        refine jj_iret dd_Mo_oracle_41 rfl rfl ?_
        rw [if_neg h6, if_neg h18, if_neg h30] at hQ
        exact ⟨_, hS, hQ⟩
      · skip
        refine jj_aload_n 0 dd_Mo_oracle_33 rfl ?_
        refine jj_gS hS dd_Mo_oracle_34 ff_Mo_110 rfl (fun _ => rfl) ?_
        refine jj_goto (tgt := 41) dd_Mo_oracle_37 (by decide) ?_
        refine jj_iret dd_Mo_oracle_41 rfl rfl ?_
        rw [if_neg h6, if_neg h18, if_pos h30] at hQ
        exact ⟨_, hS, hQ⟩
    · skip
      refine jj_aload_n 0 dd_Mo_oracle_21 rfl ?_
      refine jj_gS hS dd_Mo_oracle_22 ff_Mo_96 rfl (fun _ => rfl) ?_
      refine jj_goto (tgt := 41) dd_Mo_oracle_25 (by decide) ?_
      refine jj_iret dd_Mo_oracle_41 rfl rfl ?_
      rw [if_neg h6, if_pos h18] at hQ
      exact ⟨_, hS, hQ⟩
  · skip
    refine jj_aload_n 0 dd_Mo_oracle_9 rfl ?_
    refine jj_gS hS dd_Mo_oracle_10 ff_Mo_7 rfl (fun _ => rfl) ?_
    refine jj_goto (tgt := 41) dd_Mo_oracle_13 (by decide) ?_
    refine jj_iret dd_Mo_oracle_41 rfl rfl ?_
    rw [if_pos h6] at hQ
    exact ⟨_, hS, hQ⟩
set_option maxRecDepth 20000 in
theorem cs_Mo_lock {l : Launch} {g : Nat → Nat} {S : ss_} {Q : Option Value → ss_ → Prop} {i : Nat} {y : Int32} {F : Nat → Nat → Int32} (hF : uf_ S.1 60 1 0 = F) (hi : i < 12) (hok : ok_ F) (hy : ¬ y < 0) (hy2 : ¬ 5 < y) (hQ : lk_ F i y (fun r F => Q (some (.int r)) (F, S.2))) : cs_ l yy_Mo_lock bb_Mo_lock 4 (some .int) 2 0 0 g [.ref (g 60), .int (nI i), .int y] S Q := by
  intro M hS
  refine ct_of (by decide) (Nat.le_of_ble_eq_true rfl) (fun G A => ?_)
  unfold lk_ at hQ
  refine jj_aload_n 0 dd_Mo_lock_0 rfl ?_
  refine jj_iconst (v := 0) dd_Mo_lock_1 rfl ?_
  refine jj_pS hS dd_Mo_lock_2 ⟨ff_Mo_93, rfl⟩ rfl (fun _ => rfl) ⟨rfl, rfl⟩ (fun M hS => ?_)
  rw [hF] at hS
  refine jj_iload_n 1 dd_Mo_lock_5 rfl ?_
  refine jj_callS [_] [] 0 0 dd_Mo_lock_6 cs_Mo_142 ci_Mo_142 rfl (Nat.le_of_ble_eq_true rfl) ⟨(Nat.le_of_ble_eq_true rfl), (Nat.le_of_ble_eq_true rfl)⟩ ⟨(Nat.le_of_ble_eq_true rfl), (Nat.le_of_ble_eq_true rfl)⟩ rfl (ct_Mo_isCell (fun hb => ?_) (fun hb hb2 => ?_))
  · skip
    exact absurd hb (nc_ (n := 11) (by decide) (by omega) (by decide))
  · skip
    refine jj_if_eq (tgt := 41) dd_Mo_lock_9 (by decide) (fun h => absurd h (by decide)) (fun _ => ?_)
    refine jj_iload_n 2 dd_Mo_lock_12 rfl ?_
    refine jj_iconst (v := 0) dd_Mo_lock_13 rfl ?_
    refine jj_iconst (v := 5) dd_Mo_lock_14 rfl ?_
    refine jj_callS [_, _, _] [] 0 0 dd_Mo_lock_15 cs_Mo_127 ci_Mo_127 rfl (Nat.le_of_ble_eq_true rfl) ⟨(Nat.le_of_ble_eq_true rfl), (Nat.le_of_ble_eq_true rfl)⟩ ⟨(Nat.le_of_ble_eq_true rfl), (Nat.le_of_ble_eq_true rfl)⟩ rfl (ct_Mo_in (fun hb => ?_) (fun hb hb2 => ?_))
    · skip
      exact absurd hb (fun h => h.elim hy hy2)
    · skip
      refine jj_if_eq (tgt := 41) dd_Mo_lock_18 (by decide) (fun h => absurd h (by decide)) (fun _ => ?_)
      refine jj_aload_n 0 dd_Mo_lock_21 rfl ?_
      refine jj_rS (n := 65) hS dd_Mo_lock_22 ff_Mo_13 rfl (fun _ => rfl) rfl ?_
      refine jj_iload_n 1 dd_Mo_lock_25 rfl ?_
      refine jj_aS hS dd_Mo_lock_26 rfl (vp_in_nI (n := i) (by omega) (by decide)) (i) (nI_clamp (n := i) (by omega)) ?_
      refine jj_if_eq (tgt := 41) dd_Mo_lock_27 (by decide) (fun h27 => ?_) (fun h27 => ?_)
      · skip
        refine jj_iconst (v := (-1)) dd_Mo_lock_41 rfl ?_
        refine jj_iret dd_Mo_lock_42 rfl rfl ?_
        rw [if_pos h27] at hQ
        exact ⟨_, hS, hQ⟩
      · skip
        refine jj_aload_n 0 dd_Mo_lock_30 rfl ?_
        refine jj_rS (n := 77) hS dd_Mo_lock_31 ff_Mo_47 rfl (fun _ => rfl) rfl ?_
        refine jj_iload_n 1 dd_Mo_lock_34 rfl ?_
        refine jj_iconst (v := 4) dd_Mo_lock_35 rfl ?_
        refine jj_idiv dd_Mo_lock_36 (by decide) ?_
        refine jj_ti (x' := nI ((i) / 4)) (pk_div (a := i) (d := 4) (by omega) (by decide) (by decide)) ?_
        refine jj_zS hS dd_Mo_lock_37 rfl (vp_in_nI (n := (i) / 4) (by omega) (by decide)) ((i) / 4) (nI_clamp (n := (i) / 4) (by omega)) ?_
        refine jj_if_eq (tgt := 43) dd_Mo_lock_38 (by decide) (fun h38 => ?_) (fun h38 => ?_)
        · skip
          refine jj_aload_n 0 dd_Mo_lock_43 rfl ?_
          refine jj_iload_n 1 dd_Mo_lock_44 rfl ?_
          refine jj_callV (ci := 7) [_] [] 0 0 dd_Mo_lock_45 cs_Mo_121 ci_Mo_121 (hS.1.1 60 _ rfl) ⟨by decide, rfl⟩ rfl (Nat.le_of_ble_eq_true rfl) ⟨(Nat.le_of_ble_eq_true rfl), (Nat.le_of_ble_eq_true rfl)⟩ ⟨(Nat.le_of_ble_eq_true rfl), (Nat.le_of_ble_eq_true rfl)⟩ rfl (cs_use (cs_Mo_loose (S := (F, S.2)) (i := i) (c := on_ F i) hi (hok.2 i hi).1 (hok.2 i hi).2 (fun M hS => ?_)) hS)
          refine jj_istore_n (lv' := [(3, .int _), (0, .ref (g 60)), (1, .int (nI (i))), (2, .int (y))]) dd_Mo_lock_48 (Nat.le_of_ble_eq_true rfl) rfl ?_
          refine jj_iload_n 3 dd_Mo_lock_49 rfl ?_
          refine jj_iconst (v := 3) dd_Mo_lock_50 rfl ?_
          refine jj_icmp_ge (tgt := 88) dd_Mo_lock_51 (by decide) (fun h51 => ?_) (fun h51 => ?_)
          · skip
            refine jj_iload_n 3 dd_Mo_lock_88 rfl ?_
            refine jj_iconst (v := 3) dd_Mo_lock_89 rfl ?_
            refine jj_icmp_ne (tgt := 102) dd_Mo_lock_90 (by decide) (fun h90 => ?_) (fun h90 => ?_)
            · skip
              refine jj_iload_n 3 dd_Mo_lock_102 rfl ?_
              refine jj_iconst (v := 4) dd_Mo_lock_103 rfl ?_
              refine jj_icmp_ne (tgt := 119) dd_Mo_lock_104 (by decide) (fun h104 => ?_) (fun h104 => ?_)
              · skip
                refine jj_aload_n 1 dd_Mo_lock_119 rfl ?_
                refine jj_rS (n := 69) hS dd_Mo_lock_120 ff_Mo_26 rfl (fun _ => rfl) rfl ?_
                refine jj_iload_n 2 dd_Mo_lock_123 rfl ?_
                refine jj_aS hS dd_Mo_lock_124 rfl (vp_in_nI (n := i) (by omega) (by decide)) (i) (nI_clamp (n := i) (by omega)) ?_
                refine jj_iconst (v := 1) dd_Mo_lock_125 rfl ?_
                refine jj_icmp_ne (tgt := 138) dd_Mo_lock_126 (by decide) (fun h126 => ?_) (fun h126 => ?_)
                · skip
                  refine jj_iconst (v := 0) dd_Mo_lock_138 rfl ?_
                  refine jj_iret dd_Mo_lock_139 rfl rfl ?_
                  rw [if_neg h27, if_pos h38, if_pos h51, if_neg h90, if_neg h104, if_neg h126] at hQ
                  exact ⟨_, hS, hQ⟩
                · skip
                  refine jj_aload_n 1 dd_Mo_lock_129 rfl ?_
                  refine jj_rS (n := 70) hS dd_Mo_lock_130 ff_Mo_29 rfl (fun _ => rfl) rfl ?_
                  refine jj_iload_n 2 dd_Mo_lock_133 rfl ?_
                  refine jj_aS hS dd_Mo_lock_134 rfl (vp_in_nI (n := i) (by omega) (by decide)) (i) (nI_clamp (n := i) (by omega)) ?_
                  refine jj_goto (tgt := 139) dd_Mo_lock_135 (by decide) ?_
                  refine jj_iret dd_Mo_lock_139 rfl rfl ?_
                  rw [if_neg h27, if_pos h38, if_pos h51, if_neg h90, if_neg h104, if_pos h126] at hQ
                  exact ⟨_, hS, hQ⟩
              · skip
                refine jj_iload_n 0 dd_Mo_lock_107 rfl ?_
                refine jj_if_eq (tgt := 115) dd_Mo_lock_108 (by decide) (fun h108 => ?_) (fun h108 => ?_)
                · skip
                  refine jj_iconst (v := 0) dd_Mo_lock_115 rfl ?_
                  refine jj_goto (tgt := 139) dd_Mo_lock_116 (by decide) ?_
                  refine jj_iret dd_Mo_lock_139 rfl rfl ?_
                  rw [if_neg h27, if_pos h38, if_pos h51, if_neg h90, if_pos h104, if_pos h108] at hQ
                  exact ⟨_, hS, hQ⟩
                · skip
                  refine jj_iconst (v := 1) dd_Mo_lock_111 rfl ?_
                  refine jj_goto (tgt := 139) dd_Mo_lock_112 (by decide) ?_
                  refine jj_iret dd_Mo_lock_139 rfl rfl ?_
                  rw [if_neg h27, if_pos h38, if_pos h51, if_neg h90, if_pos h104, if_neg h108] at hQ
                  exact ⟨_, hS, hQ⟩
            · skip
              refine jj_aload_n 1 dd_Mo_lock_93 rfl ?_
              refine jj_rS (n := 68) hS dd_Mo_lock_94 ff_Mo_23 rfl (fun _ => rfl) rfl ?_
              refine jj_iload_n 2 dd_Mo_lock_97 rfl ?_
              refine jj_aS hS dd_Mo_lock_98 rfl (vp_in_nI (n := i) (by omega) (by decide)) (i) (nI_clamp (n := i) (by omega)) ?_
              refine jj_goto (tgt := 139) dd_Mo_lock_99 (by decide) ?_
              refine jj_iret dd_Mo_lock_139 rfl rfl ?_
              rw [if_neg h27, if_pos h38, if_pos h51, if_pos h90] at hQ
              exact ⟨_, hS, hQ⟩
          · skip
            refine jj_iload_n 3 dd_Mo_lock_54 rfl ?_
            refine jj_if_ne (tgt := 67) dd_Mo_lock_55 (by decide) (fun h55 => ?_) (fun h55 => ?_)
            · skip
              refine jj_iload_n 3 dd_Mo_lock_67 rfl ?_
              refine jj_iconst (v := 1) dd_Mo_lock_68 rfl ?_
              refine jj_icmp_ne (tgt := 81) dd_Mo_lock_69 (by decide) (fun h69 => ?_) (fun h69 => ?_)
              · skip
                refine jj_aload_n 1 dd_Mo_lock_81 rfl ?_
                refine jj_rS (n := 67) hS dd_Mo_lock_82 ff_Mo_20 rfl (fun _ => rfl) rfl ?_
                refine jj_iload_n 2 dd_Mo_lock_85 rfl ?_
                refine jj_aS hS dd_Mo_lock_86 rfl (vp_in_nI (n := i) (by omega) (by decide)) (i) (nI_clamp (n := i) (by omega)) ?_
                refine jj_iret dd_Mo_lock_87 rfl rfl ?_
                rw [if_neg h27, if_pos h38, if_neg h51, if_neg h55, if_neg h69] at hQ
                exact ⟨_, hS, hQ⟩
              · skip
                refine jj_aload_n 1 dd_Mo_lock_72 rfl ?_
                refine jj_rS (n := 66) hS dd_Mo_lock_73 ff_Mo_17 rfl (fun _ => rfl) rfl ?_
                refine jj_iload_n 2 dd_Mo_lock_76 rfl ?_
                refine jj_aS hS dd_Mo_lock_77 rfl (vp_in_nI (n := i) (by omega) (by decide)) (i) (nI_clamp (n := i) (by omega)) ?_
                refine jj_goto (tgt := 87) dd_Mo_lock_78 (by decide) ?_
                refine jj_iret dd_Mo_lock_87 rfl rfl ?_
                rw [if_neg h27, if_pos h38, if_neg h51, if_neg h55, if_pos h69] at hQ
                exact ⟨_, hS, hQ⟩
            · skip
              refine jj_aload_n 1 dd_Mo_lock_58 rfl ?_
              refine jj_rS (n := 65) hS dd_Mo_lock_59 ff_Mo_13 rfl (fun _ => rfl) rfl ?_
              refine jj_iload_n 2 dd_Mo_lock_62 rfl ?_
              refine jj_aS hS dd_Mo_lock_63 rfl (vp_in_nI (n := i) (by omega) (by decide)) (i) (nI_clamp (n := i) (by omega)) ?_
              refine jj_goto (tgt := 87) dd_Mo_lock_64 (by decide) ?_
              refine jj_iret dd_Mo_lock_87 rfl rfl ?_
              rw [if_neg h27, if_pos h38, if_neg h51, if_pos h55] at hQ
              exact ⟨_, hS, hQ⟩
        · skip
          refine jj_iconst (v := (-1)) dd_Mo_lock_41 rfl ?_
          refine jj_iret dd_Mo_lock_42 rfl rfl ?_
          rw [if_neg h27, if_neg h38] at hQ
          exact ⟨_, hS, hQ⟩
set_option maxRecDepth 20000 in
theorem cs_Mo_lock0 {l : Launch} {g : Nat → Nat} {S : ss_} {Q : Option Value → ss_ → Prop} {u v : Int32} {F : Nat → Nat → Int32} (hF : uf_ S.1 60 1 0 = F) (hx : (u < 0 ∨ 11 < u) ∨ (v < 0 ∨ 5 < v)) (hQ : Q (some (.int (-1))) (F, S.2)) : cs_ l yy_Mo_lock bb_Mo_lock 4 (some .int) 2 0 0 g [.ref (g 60), .int u, .int v] S Q := by
  intro M hS
  refine ct_of (by decide) (Nat.le_of_ble_eq_true rfl) (fun G A => ?_)
  refine jj_aload_n 0 dd_Mo_lock_0 rfl ?_
  refine jj_iconst (v := 0) dd_Mo_lock_1 rfl ?_
  refine jj_pS hS dd_Mo_lock_2 ⟨ff_Mo_93, rfl⟩ rfl (fun _ => rfl) ⟨rfl, rfl⟩ (fun M hS => ?_)
  rw [hF] at hS
  refine jj_iload_n 1 dd_Mo_lock_5 rfl ?_
  refine jj_callS [_] [] 0 0 dd_Mo_lock_6 cs_Mo_142 ci_Mo_142 rfl (Nat.le_of_ble_eq_true rfl) ⟨(Nat.le_of_ble_eq_true rfl), (Nat.le_of_ble_eq_true rfl)⟩ ⟨(Nat.le_of_ble_eq_true rfl), (Nat.le_of_ble_eq_true rfl)⟩ rfl (ct_Mo_isCell (fun hb => ?_) (fun hb hb2 => ?_))
  · skip
    refine jj_if_eq (tgt := 41) dd_Mo_lock_9 (by decide) (fun _ => ?_) (fun h => absurd h (by decide))
    refine jj_iconst (v := (-1)) dd_Mo_lock_41 rfl ?_
    refine jj_iret dd_Mo_lock_42 rfl rfl ?_
    exact ⟨_, hS, hQ⟩
  · skip
    have hv := hx.resolve_left (fun h => h.elim hb hb2)
    refine jj_if_eq (tgt := 41) dd_Mo_lock_9 (by decide) (fun h => absurd h (by decide)) (fun _ => ?_)
    refine jj_iload_n 2 dd_Mo_lock_12 rfl ?_
    refine jj_iconst (v := 0) dd_Mo_lock_13 rfl ?_
    refine jj_iconst (v := 5) dd_Mo_lock_14 rfl ?_
    refine jj_callS [_, _, _] [] 0 0 dd_Mo_lock_15 cs_Mo_127 ci_Mo_127 rfl (Nat.le_of_ble_eq_true rfl) ⟨(Nat.le_of_ble_eq_true rfl), (Nat.le_of_ble_eq_true rfl)⟩ ⟨(Nat.le_of_ble_eq_true rfl), (Nat.le_of_ble_eq_true rfl)⟩ rfl (ct_Mo_in (fun hb => ?_) (fun hb hb2 => ?_))
    · skip
      refine jj_if_eq (tgt := 41) dd_Mo_lock_18 (by decide) (fun _ => ?_) (fun h => absurd h (by decide))
      refine jj_iconst (v := (-1)) dd_Mo_lock_41 rfl ?_
      refine jj_iret dd_Mo_lock_42 rfl rfl ?_
      exact ⟨_, hS, hQ⟩
    · skip
      exact absurd hv (fun h => h.elim hb hb2)
set_option maxRecDepth 20000 in
theorem cs_Mo_transaction {l : Launch} {g : Nat → Nat} {S : ss_} {Q : Option Value → ss_ → Prop} {c : Nat} {y : Int32} {F : Nat → Nat → Int32} (hF : uf_ S.1 60 1 0 = F) (hc : c < 4) (hy : ¬ y < 0) (hy2 : ¬ 5 < y) (hQ : if F 83 c = 0 then Q (some (.int 0)) (F, S.2) else ta_ F c y (tr_go F c y 12 0 0) (fun r F => Q (some (.int r)) (F, S.2))) : cs_ l yy_Mo_transaction bb_Mo_transaction 6 (some .int) 2 0 0 g [.ref (g 60), .int (nI c), .int y] S Q := by
  intro M hS
  refine ct_of (by decide) (Nat.le_of_ble_eq_true rfl) (fun G A => ?_)
  have loop : ∀ (n k : Nat) (z : Int32) (M : mm_M), k + n = 12 → rp_ g M (F, S.2) → ta_ F c y (tr_go F c y n k z) (fun r F => Q (some (.int r)) (F, S.2)) → jj_ l yy_Mo_transaction bb_Mo_transaction 6 (some .int) G (mm_R 2 0 0) A (mm_ret (qs_ g Q)) 0 0 40 [(4, .int (nI (k))), (3, .int (z)), (0, .ref (g 60)), (1, .int (nI (c))), (2, .int (y))] [] M := by
    intro n
    induction n with
    | zero =>
      intro k z M hk hS hQ
      have hk : k = 12 := by omega
      subst hk
      refine jj_iload 0 dd_Mo_transaction_40 rfl ?_
      refine jj_bipush (v := 12) dd_Mo_transaction_42 rfl ?_
      refine jj_icmp_ge (tgt := 97) dd_Mo_transaction_44 (by decide) (fun h44 => ?_) (fun h44 => ?_)
      · skip
        unfold ta_ tr_go at hQ
        skip
        refine jj_iload_n 4 dd_Mo_transaction_97 rfl ?_
        refine jj_if_ne (tgt := 110) dd_Mo_transaction_98 (by decide) (fun h98 => ?_) (fun h98 => ?_)
        · skip
          refine jj_iload_n 4 dd_Mo_transaction_110 rfl ?_
          refine jj_iconst (v := 1) dd_Mo_transaction_111 rfl ?_
          refine jj_icmp_ne (tgt := 124) dd_Mo_transaction_112 (by decide) (fun h112 => ?_) (fun h112 => ?_)
          · skip
            refine jj_iload_n 4 dd_Mo_transaction_124 rfl ?_
            refine jj_iconst (v := 2) dd_Mo_transaction_125 rfl ?_
            refine jj_icmp_ne (tgt := 138) dd_Mo_transaction_126 (by decide) (fun h126 => ?_) (fun h126 => ?_)
            · skip
              refine jj_iload_n 4 dd_Mo_transaction_138 rfl ?_
              refine jj_iconst (v := 5) dd_Mo_transaction_139 rfl ?_
              refine jj_icmp_ge (tgt := 147) dd_Mo_transaction_140 (by decide) (fun h140 => ?_) (fun h140 => ?_)
              · skip
                refine jj_aload_n 2 dd_Mo_transaction_147 rfl ?_
                refine jj_rS (n := 86) hS dd_Mo_transaction_148 ff_Mo_75 rfl (fun _ => rfl) rfl ?_
                refine jj_iload_n 3 dd_Mo_transaction_151 rfl ?_
                refine jj_zS hS dd_Mo_transaction_152 rfl (vp_in_nI (n := c) (by omega) (by decide)) (c) (nI_clamp (n := c) (by omega)) ?_
                refine jj_if_eq (tgt := 160) dd_Mo_transaction_153 (by decide) (fun h153 => ?_) (fun h153 => ?_)
                · skip
                  refine jj_iconst (v := 0) dd_Mo_transaction_160 rfl ?_
                  refine jj_iret dd_Mo_transaction_161 rfl rfl ?_
                  rw [if_neg h98, if_neg h112, if_neg h126, if_pos h140, if_pos h153] at hQ
                  exact ⟨_, hS, hQ⟩
                · skip
                  refine jj_iconst (v := 1) dd_Mo_transaction_156 rfl ?_
                  refine jj_goto (tgt := 161) dd_Mo_transaction_157 (by decide) ?_
                  refine jj_iret dd_Mo_transaction_161 rfl rfl ?_
                  rw [if_neg h98, if_neg h112, if_neg h126, if_pos h140, if_neg h153] at hQ
                  exact ⟨_, hS, hQ⟩
              · skip
                refine jj_iload_n 1 dd_Mo_transaction_143 rfl ?_
                refine jj_goto (tgt := 161) dd_Mo_transaction_144 (by decide) ?_
                refine jj_iret dd_Mo_transaction_161 rfl rfl ?_
                rw [if_neg h98, if_neg h112, if_neg h126, if_neg h140] at hQ
                exact ⟨_, hS, hQ⟩
            · skip
              refine jj_aload_n 2 dd_Mo_transaction_129 rfl ?_
              refine jj_rS (n := 85) hS dd_Mo_transaction_130 ff_Mo_72 rfl (fun _ => rfl) rfl ?_
              refine jj_iload_n 3 dd_Mo_transaction_133 rfl ?_
              refine jj_aS hS dd_Mo_transaction_134 rfl (vp_in_nI (n := c) (by omega) (by decide)) (c) (nI_clamp (n := c) (by omega)) ?_
              refine jj_goto (tgt := 161) dd_Mo_transaction_135 (by decide) ?_
              refine jj_iret dd_Mo_transaction_161 rfl rfl ?_
              rw [if_neg h98, if_neg h112, if_pos h126] at hQ
              exact ⟨_, hS, hQ⟩
          · skip
            refine jj_aload_n 2 dd_Mo_transaction_115 rfl ?_
            refine jj_rS (n := 84) hS dd_Mo_transaction_116 ff_Mo_69 rfl (fun _ => rfl) rfl ?_
            refine jj_iload_n 3 dd_Mo_transaction_119 rfl ?_
            refine jj_aS hS dd_Mo_transaction_120 rfl (vp_in_nI (n := c) (by omega) (by decide)) (c) (nI_clamp (n := c) (by omega)) ?_
            refine jj_goto (tgt := 161) dd_Mo_transaction_121 (by decide) ?_
            refine jj_iret dd_Mo_transaction_161 rfl rfl ?_
            rw [if_neg h98, if_pos h112] at hQ
            exact ⟨_, hS, hQ⟩
        · skip
          refine jj_aload_n 2 dd_Mo_transaction_101 rfl ?_
          refine jj_rS (n := 83) hS dd_Mo_transaction_102 ff_Mo_66 rfl (fun _ => rfl) rfl ?_
          refine jj_iload_n 3 dd_Mo_transaction_105 rfl ?_
          refine jj_aS hS dd_Mo_transaction_106 rfl (vp_in_nI (n := c) (by omega) (by decide)) (c) (nI_clamp (n := c) (by omega)) ?_
          refine jj_goto (tgt := 161) dd_Mo_transaction_107 (by decide) ?_
          refine jj_iret dd_Mo_transaction_161 rfl rfl ?_
          rw [if_pos h98] at hQ
          exact ⟨_, hS, hQ⟩
      · exact absurd (by decide) h44
    | succ n ih =>
      intro k z M hk hS hQ
      refine jj_iload 0 dd_Mo_transaction_40 rfl ?_
      refine jj_bipush (v := 12) dd_Mo_transaction_42 rfl ?_
      refine jj_icmp_ge (tgt := 97) dd_Mo_transaction_44 (by decide) (fun h44 => ?_) (fun h44 => ?_)
      · exact absurd h44 (nI_ge (b := 12) (by omega) (by decide))
      · skip
        refine jj_bipush (v := 12) dd_Mo_transaction_47 rfl ?_
        refine jj_iload_n 3 dd_Mo_transaction_49 rfl ?_
        refine jj_imul dd_Mo_transaction_50 ?_
        refine jj_ti (x' := nI (12 * c)) (pk_mul (12) (c)) ?_
        refine jj_iload 0 dd_Mo_transaction_51 rfl ?_
        refine jj_iadd dd_Mo_transaction_53 ?_
        refine jj_ti (x' := nI ((12 * c) + (k))) (nI_add (12 * c) (k)) ?_
        refine jj_istore (lv' := [(5, .int (nI ((12 * c) + (k)))), (4, .int (nI (k))), (3, .int (z)), (0, .ref (g 60)), (1, .int (nI (c))), (2, .int (y))]) dd_Mo_transaction_54 (Nat.le_of_ble_eq_true rfl) rfl ?_
        refine jj_iload_n 5 dd_Mo_transaction_56 rfl ?_
        refine jj_iconst (v := 3) dd_Mo_transaction_57 rfl ?_
        refine jj_icmp_ne (tgt := 74) dd_Mo_transaction_58 (by decide) (fun h58 => ?_) (fun h58 => ?_)
        · skip
          refine jj_aload_n 3 dd_Mo_transaction_74 rfl ?_
          refine jj_rS (n := 89) hS dd_Mo_transaction_75 ff_Mo_84 rfl (fun _ => rfl) rfl ?_
          refine jj_iload 0 dd_Mo_transaction_78 rfl ?_
          refine jj_zS hS dd_Mo_transaction_80 rfl (vp_in_nI (n := (12 * c) + (k)) (by omega) (by decide)) ((12 * c) + (k)) (nI_clamp (n := (12 * c) + (k)) (by omega)) ?_
          refine jj_if_eq (tgt := 91) dd_Mo_transaction_81 (by decide) (fun h81 => ?_) (fun h81 => ?_)
          · skip
            refine jj_iinc 1 (lv' := [(4, .int (nI (k + 1))), (5, .int (nI ((12 * c) + (k)))), (3, .int (z)), (0, .ref (g 60)), (1, .int (nI (c))), (2, .int (y))]) dd_Mo_transaction_91 rfl (nI_1 k) (Nat.le_of_ble_eq_true rfl) rfl ?_
            refine jj_goto (tgt := 40) dd_Mo_transaction_94 (by decide) ?_
            refine jj_sub [0, 2, 3, 4, 5] rfl ?_
            unfold tr_go at hQ
            rw [if_neg h58, if_pos h81] at hQ
            exact ih _ _ _ (by omega) hS hQ
          · skip
            refine jj_iload_n 2 dd_Mo_transaction_84 rfl ?_
            refine jj_iconst (v := 1) dd_Mo_transaction_85 rfl ?_
            refine jj_iload 1 dd_Mo_transaction_86 rfl ?_
            refine jj_ishl dd_Mo_transaction_88 ?_
            refine jj_iadd dd_Mo_transaction_89 ?_
            refine jj_istore_n (lv' := [(3, .int _), (5, .int (nI ((12 * c) + (k)))), (4, .int (nI (k))), (0, .ref (g 60)), (1, .int (nI (c))), (2, .int (y))]) dd_Mo_transaction_90 (Nat.le_of_ble_eq_true rfl) rfl ?_
            refine jj_iinc 2 (lv' := [(4, .int (nI (k + 1))), (3, .int _), (5, .int (nI ((12 * c) + (k)))), (0, .ref (g 60)), (1, .int (nI (c))), (2, .int (y))]) dd_Mo_transaction_91 rfl (nI_1 k) (Nat.le_of_ble_eq_true rfl) rfl ?_
            refine jj_goto (tgt := 40) dd_Mo_transaction_94 (by decide) ?_
            refine jj_sub [0, 1, 3, 4, 5] rfl ?_
            unfold tr_go at hQ
            rw [if_neg h58, if_neg h81] at hQ
            exact ih _ _ _ (by omega) hS hQ
        · skip
          refine jj_aload_n 3 dd_Mo_transaction_61 rfl ?_
          refine jj_rS (n := 87) hS dd_Mo_transaction_62 ff_Mo_78 rfl (fun _ => rfl) rfl ?_
          refine jj_iload 0 dd_Mo_transaction_65 rfl ?_
          refine jj_aS hS dd_Mo_transaction_67 rfl (vp_in_nI (n := (12 * c) + (k)) (by omega) (by decide)) ((12 * c) + (k)) (nI_clamp (n := (12 * c) + (k)) (by omega)) ?_
          refine jj_if_le (tgt := 91) dd_Mo_transaction_68 (by decide) (fun h68 => ?_) (fun h68 => ?_)
          · skip
            refine jj_iinc 1 (lv' := [(4, .int (nI (k + 1))), (5, .int (nI ((12 * c) + (k)))), (3, .int (z)), (0, .ref (g 60)), (1, .int (nI (c))), (2, .int (y))]) dd_Mo_transaction_91 rfl (nI_1 k) (Nat.le_of_ble_eq_true rfl) rfl ?_
            refine jj_goto (tgt := 40) dd_Mo_transaction_94 (by decide) ?_
            refine jj_sub [0, 2, 3, 4, 5] rfl ?_
            unfold tr_go at hQ
            rw [if_pos h58, if_pos h68] at hQ
            exact ih _ _ _ (by omega) hS hQ
          · skip
            refine jj_goto (tgt := 84) dd_Mo_transaction_71 (by decide) ?_
            refine jj_iload_n 2 dd_Mo_transaction_84 rfl ?_
            refine jj_iconst (v := 1) dd_Mo_transaction_85 rfl ?_
            refine jj_iload 1 dd_Mo_transaction_86 rfl ?_
            refine jj_ishl dd_Mo_transaction_88 ?_
            refine jj_iadd dd_Mo_transaction_89 ?_
            refine jj_istore_n (lv' := [(3, .int _), (5, .int (nI ((12 * c) + (k)))), (4, .int (nI (k))), (0, .ref (g 60)), (1, .int (nI (c))), (2, .int (y))]) dd_Mo_transaction_90 (Nat.le_of_ble_eq_true rfl) rfl ?_
            refine jj_iinc 2 (lv' := [(4, .int (nI (k + 1))), (3, .int _), (5, .int (nI ((12 * c) + (k)))), (0, .ref (g 60)), (1, .int (nI (c))), (2, .int (y))]) dd_Mo_transaction_91 rfl (nI_1 k) (Nat.le_of_ble_eq_true rfl) rfl ?_
            refine jj_goto (tgt := 40) dd_Mo_transaction_94 (by decide) ?_
            refine jj_sub [0, 1, 3, 4, 5] rfl ?_
            unfold tr_go at hQ
            rw [if_pos h58, if_neg h68] at hQ
            exact ih _ _ _ (by omega) hS hQ
  refine jj_aload_n 0 dd_Mo_transaction_0 rfl ?_
  refine jj_iconst (v := 0) dd_Mo_transaction_1 rfl ?_
  refine jj_pS hS dd_Mo_transaction_2 ⟨ff_Mo_93, rfl⟩ rfl (fun _ => rfl) ⟨rfl, rfl⟩ (fun M hS => ?_)
  rw [hF] at hS
  refine jj_aload_n 0 dd_Mo_transaction_5 rfl ?_
  refine jj_iload_n 1 dd_Mo_transaction_6 rfl ?_
  refine jj_callV (ci := 7) [_] [] 0 0 dd_Mo_transaction_7 cs_Mo_131 ci_Mo_131 (hS.1.1 60 _ rfl) ⟨by decide, rfl⟩ rfl (Nat.le_of_ble_eq_true rfl) ⟨(Nat.le_of_ble_eq_true rfl), (Nat.le_of_ble_eq_true rfl)⟩ ⟨(Nat.le_of_ble_eq_true rfl), (Nat.le_of_ble_eq_true rfl)⟩ rfl (ct_Mo_isClient (fun hb => ?_) (fun hb hb2 => ?_))
  · skip
    exact absurd hb (nc_ (n := 3) (by decide) (by omega) (by decide))
  · skip
    refine jj_if_eq (tgt := 22) dd_Mo_transaction_10 (by decide) (fun h => absurd h (by decide)) (fun _ => ?_)
    refine jj_iload_n 2 dd_Mo_transaction_13 rfl ?_
    refine jj_iconst (v := 0) dd_Mo_transaction_14 rfl ?_
    refine jj_iconst (v := 5) dd_Mo_transaction_15 rfl ?_
    refine jj_callS [_, _, _] [] 0 0 dd_Mo_transaction_16 cs_Mo_127 ci_Mo_127 rfl (Nat.le_of_ble_eq_true rfl) ⟨(Nat.le_of_ble_eq_true rfl), (Nat.le_of_ble_eq_true rfl)⟩ ⟨(Nat.le_of_ble_eq_true rfl), (Nat.le_of_ble_eq_true rfl)⟩ rfl (ct_Mo_in (fun hb => ?_) (fun hb hb2 => ?_))
    · skip
      exact absurd hb (fun h => h.elim hy hy2)
    · skip
      refine jj_if_ne (tgt := 24) dd_Mo_transaction_19 (by decide) (fun _ => ?_) (fun h => absurd h (by decide))
      refine jj_aload_n 0 dd_Mo_transaction_24 rfl ?_
      refine jj_rS (n := 83) hS dd_Mo_transaction_25 ff_Mo_66 rfl (fun _ => rfl) rfl ?_
      refine jj_iload_n 1 dd_Mo_transaction_28 rfl ?_
      refine jj_aS hS dd_Mo_transaction_29 rfl (vp_in_nI (n := c) (by omega) (by decide)) (c) (nI_clamp (n := c) (by omega)) ?_
      refine jj_if_ne (tgt := 35) dd_Mo_transaction_30 (by decide) (fun h30 => ?_) (fun h30 => ?_)
      · skip
        refine jj_iconst (v := 0) dd_Mo_transaction_35 rfl ?_
        refine jj_istore_n (lv' := [(3, .int (0)), (0, .ref (g 60)), (1, .int (nI (c))), (2, .int (y))]) dd_Mo_transaction_36 (Nat.le_of_ble_eq_true rfl) rfl ?_
        refine jj_iconst (v := 0) dd_Mo_transaction_37 rfl ?_
        refine jj_istore (lv' := [(4, .int (0)), (3, .int (0)), (0, .ref (g 60)), (1, .int (nI (c))), (2, .int (y))]) dd_Mo_transaction_38 (Nat.le_of_ble_eq_true rfl) rfl ?_
        rw [if_neg h30] at hQ
        exact loop 12 0 _ _ (by omega) hS hQ
      · skip
        refine jj_iconst (v := 0) dd_Mo_transaction_33 rfl ?_
        refine jj_iret dd_Mo_transaction_34 rfl rfl ?_
        rw [if_pos h30] at hQ
        exact ⟨_, hS, hQ⟩
set_option maxRecDepth 20000 in
theorem cs_Mo_transaction0 {l : Launch} {g : Nat → Nat} {S : ss_} {Q : Option Value → ss_ → Prop} {u v : Int32} {F : Nat → Nat → Int32} (hF : uf_ S.1 60 1 0 = F) (hx : (u < 0 ∨ 3 < u) ∨ (v < 0 ∨ 5 < v)) (hQ : Q (some (.int (-1))) (F, S.2)) : cs_ l yy_Mo_transaction bb_Mo_transaction 6 (some .int) 2 0 0 g [.ref (g 60), .int u, .int v] S Q := by
  intro M hS
  refine ct_of (by decide) (Nat.le_of_ble_eq_true rfl) (fun G A => ?_)
  refine jj_aload_n 0 dd_Mo_transaction_0 rfl ?_
  refine jj_iconst (v := 0) dd_Mo_transaction_1 rfl ?_
  refine jj_pS hS dd_Mo_transaction_2 ⟨ff_Mo_93, rfl⟩ rfl (fun _ => rfl) ⟨rfl, rfl⟩ (fun M hS => ?_)
  rw [hF] at hS
  refine jj_aload_n 0 dd_Mo_transaction_5 rfl ?_
  refine jj_iload_n 1 dd_Mo_transaction_6 rfl ?_
  refine jj_callV (ci := 7) [_] [] 0 0 dd_Mo_transaction_7 cs_Mo_131 ci_Mo_131 (hS.1.1 60 _ rfl) ⟨by decide, rfl⟩ rfl (Nat.le_of_ble_eq_true rfl) ⟨(Nat.le_of_ble_eq_true rfl), (Nat.le_of_ble_eq_true rfl)⟩ ⟨(Nat.le_of_ble_eq_true rfl), (Nat.le_of_ble_eq_true rfl)⟩ rfl (ct_Mo_isClient (fun hb => ?_) (fun hb hb2 => ?_))
  · skip
    refine jj_if_eq (tgt := 22) dd_Mo_transaction_10 (by decide) (fun _ => ?_) (fun h => absurd h (by decide))
    refine jj_iconst (v := (-1)) dd_Mo_transaction_22 rfl ?_
    refine jj_iret dd_Mo_transaction_23 rfl rfl ?_
    exact ⟨_, hS, hQ⟩
  · skip
    have hv := hx.resolve_left (fun h => h.elim hb hb2)
    refine jj_if_eq (tgt := 22) dd_Mo_transaction_10 (by decide) (fun h => absurd h (by decide)) (fun _ => ?_)
    refine jj_iload_n 2 dd_Mo_transaction_13 rfl ?_
    refine jj_iconst (v := 0) dd_Mo_transaction_14 rfl ?_
    refine jj_iconst (v := 5) dd_Mo_transaction_15 rfl ?_
    refine jj_callS [_, _, _] [] 0 0 dd_Mo_transaction_16 cs_Mo_127 ci_Mo_127 rfl (Nat.le_of_ble_eq_true rfl) ⟨(Nat.le_of_ble_eq_true rfl), (Nat.le_of_ble_eq_true rfl)⟩ ⟨(Nat.le_of_ble_eq_true rfl), (Nat.le_of_ble_eq_true rfl)⟩ rfl (ct_Mo_in (fun hb => ?_) (fun hb hb2 => ?_))
    · skip
      refine jj_if_ne (tgt := 24) dd_Mo_transaction_19 (by decide) (fun h => absurd h (by decide)) (fun _ => ?_)
      refine jj_iconst (v := (-1)) dd_Mo_transaction_22 rfl ?_
      refine jj_iret dd_Mo_transaction_23 rfl rfl ?_
      exact ⟨_, hS, hQ⟩
    · skip
      exact absurd hv (fun h => h.elim hb hb2)
