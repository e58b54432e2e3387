def rec_ (F : Nat → Nat → Int32) : Nat := (F 60 11).toNatClampNeg
def dn_F (F : Nat → Nat → Int32) (i : Nat) (w : Int32) : Nat → Nat → Int32 := if en_g F (i / 4) = 0 then en_F F (i / 4) else uf_ (pu_F (en_F F (i / 4)) (rec_ F) (nI i) w (F 65 i) (F 69 i) (F 70 i)) 65 i 0
def vo_F (F : Nat → Nat → Int32) (i : Nat) (x : Int32) : Nat → Nat → Int32 := if en_g F (i / 4) = 0 then en_F F (i / 4) else uf_ (pu_F (en_F F (i / 4)) (rec_ F) (nI i) x x 3 0) 65 i (if F 65 i = x then 0 else F 65 i)
def lo_F (F : Nat → Nat → Int32) (c i : Nat) (p : Int32) : Nat → Nat → Int32 := if en_g F (i / 4) = 0 then en_F F (i / 4) else uf_ (uf_ (uf_ (uf_ (uf_ (uf_ (en_F F (i / 4)) 65 i (F 84 c)) 66 i p) 67 i (nI c)) 68 i (F 60 2)) 69 i (F 87 (12 * c + i))) 70 i (F 88 (12 * c + i))
def dn_r (F : Nat → Nat → Int32) (i : Nat) (w : Int32) : Int32 := if dn_F F i w 77 (i / 4) = 0 then 1 else 0
def vo_r (F : Nat → Nat → Int32) (i : Nat) (x : Int32) : Int32 := if vo_F F i x 77 (i / 4) = 0 then 1 else 0
def lo_r (F : Nat → Nat → Int32) (c i : Nat) (p : Int32) : Int32 := if lo_F F c i p 77 (i / 4) = 0 then 1 else 0
theorem en_oth (F : Nat → Nat → Int32) (t n j : Nat) (h : n < 77 ∨ 82 < n ∨ n = 78 ∨ n = 82) : en_F F t n j = F n j := by
  have h1 : ¬ (n = 79 ∧ j = t) := by omega
  have h2 : ¬ (n = 80 ∧ j = t) := by omega
  have h3 : ¬ (n = 81 ∧ j = t) := by omega
  have h4 : ¬ (n = 77 ∧ j = t) := by omega
  simp [en_F, uf_at, h1, h2, h3, h4]
set_option maxRecDepth 20000 in
theorem cs_Mo_done {l : Launch} {g : Nat → Nat} {S : ss_} {Q : Option Value → ss_ → Prop} {i : Nat} {w : Int32} (hi : i < 12) (hr : S.1 60 11 = nI (rec_ S.1)) (hr2 : rec_ S.1 < 1540) (hQ : Q (some (.int (dn_r S.1 i w))) (dn_F S.1 i w, S.2)) : cs_ l yy_Mo_done bb_Mo_done 4 (some .boolean) 1 0 0 g [.ref (g 60), .int (nI i), .int w] S Q := by
  intro M hS
  refine ct_of (by decide) (Nat.le_of_ble_eq_true rfl) (fun G A => ?_)
  refine jj_aload_n 0 dd_Mo_done_0 rfl ?_
  refine jj_iload_n 1 dd_Mo_done_1 rfl ?_
  refine jj_iconst (v := 4) dd_Mo_done_2 rfl ?_
  refine jj_idiv dd_Mo_done_3 (by decide) ?_
  refine jj_ti (x' := nI ((i) / 4)) (pk_div (a := i) (d := 4) (by omega) (by decide) (by decide)) ?_
  refine jj_callV (ci := 7) [_] [] 0 0 dd_Mo_done_4 cs_Mo_102 ci_Mo_102 (hS.1.1 60 _ rfl) ⟨by decide, rfl⟩ rfl (Nat.le_of_ble_eq_true rfl) ⟨(Nat.le_of_ble_eq_true rfl), (Nat.le_of_ble_eq_true rfl)⟩ ⟨(Nat.le_of_ble_eq_true rfl), (Nat.le_of_ble_eq_true rfl)⟩ rfl (cs_use (cs_Mo_entry (t := i / 4) (by omega) (fun M hS => ?_)) hS)
  refine jj_istore_n (lv' := [(3, .int _), (0, .ref (g 60)), (1, .int (nI (i))), (2, .int _)]) dd_Mo_done_7 (Nat.le_of_ble_eq_true rfl) rfl ?_
  refine jj_iload_n 0 dd_Mo_done_8 rfl ?_
  refine jj_if_eq (tgt := 43) dd_Mo_done_9 (by decide) (fun h9 => ?_) (fun h9 => ?_)
  · skip
    refine jj_aload_n 1 dd_Mo_done_43 rfl ?_
    refine jj_rS (n := 77) hS dd_Mo_done_44 ff_Mo_47 rfl (fun _ => rfl) rfl ?_
    refine jj_iload_n 2 dd_Mo_done_47 rfl ?_
    refine jj_iconst (v := 4) dd_Mo_done_48 rfl ?_
    refine jj_idiv dd_Mo_done_49 (by decide) ?_
    refine jj_ti (x' := nI ((i) / 4)) (pk_div (a := i) (d := 4) (by omega) (by decide) (by decide)) ?_
    refine jj_zS hS dd_Mo_done_50 rfl (vp_in_nI (n := (i) / 4) (by omega) (by decide)) ((i) / 4) (nI_clamp (n := (i) / 4) (by omega)) ?_
    refine jj_if_ne (tgt := 58) dd_Mo_done_51 (by decide) (fun h51 => ?_) (fun h51 => ?_)
    · skip
      refine jj_iconst (v := 0) dd_Mo_done_58 rfl ?_
      refine jj_iret dd_Mo_done_59 rfl rfl ?_
      refine ⟨_, hS, ?_⟩
      try simp [uf_at, pu_F, en_oth, -Int32.not_lt, -Int32.not_le] at h9 h51
      simpa [uf_at, pu_F, en_oth, dn_F, dn_r, -Int32.not_lt, -Int32.not_le, h9, h51] using hQ
    · skip
      refine jj_iconst (v := 1) dd_Mo_done_54 rfl ?_
      refine jj_goto (tgt := 59) dd_Mo_done_55 (by decide) ?_
      refine jj_iret dd_Mo_done_59 rfl rfl ?_
      refine ⟨_, hS, ?_⟩
      try simp [uf_at, pu_F, en_oth, -Int32.not_lt, -Int32.not_le] at h9 h51
      simpa [uf_at, pu_F, en_oth, dn_F, dn_r, -Int32.not_lt, -Int32.not_le, h9, h51] using hQ
  · skip
    refine jj_aload_n 1 dd_Mo_done_12 rfl ?_
    refine jj_iload_n 2 dd_Mo_done_13 rfl ?_
    refine jj_iload_n 3 dd_Mo_done_14 rfl ?_
    refine jj_aload_n 1 dd_Mo_done_15 rfl ?_
    refine jj_rS (n := 65) hS dd_Mo_done_16 ff_Mo_13 rfl (fun _ => rfl) rfl ?_
    refine jj_iload_n 2 dd_Mo_done_19 rfl ?_
    refine jj_aS hS dd_Mo_done_20 rfl (vp_in_nI (n := i) (by omega) (by decide)) (i) (nI_clamp (n := i) (by omega)) ?_
    refine jj_aload_n 1 dd_Mo_done_21 rfl ?_
    refine jj_rS (n := 69) hS dd_Mo_done_22 ff_Mo_26 rfl (fun _ => rfl) rfl ?_
    refine jj_iload_n 2 dd_Mo_done_25 rfl ?_
    refine jj_aS hS dd_Mo_done_26 rfl (vp_in_nI (n := i) (by omega) (by decide)) (i) (nI_clamp (n := i) (by omega)) ?_
    refine jj_aload_n 1 dd_Mo_done_27 rfl ?_
    refine jj_rS (n := 70) hS dd_Mo_done_28 ff_Mo_29 rfl (fun _ => rfl) rfl ?_
    refine jj_iload_n 2 dd_Mo_done_31 rfl ?_
    refine jj_aS hS dd_Mo_done_32 rfl (vp_in_nI (n := i) (by omega) (by decide)) (i) (nI_clamp (n := i) (by omega)) ?_
    refine jj_callV (ci := 7) [_, _, _, _, _] [] 0 0 dd_Mo_done_33 cs_Mo_106 ci_Mo_106 (hS.1.1 60 _ rfl) ⟨by decide, rfl⟩ rfl (Nat.le_of_ble_eq_true rfl) ⟨(Nat.le_of_ble_eq_true rfl), (Nat.le_of_ble_eq_true rfl)⟩ ⟨(Nat.le_of_ble_eq_true rfl), (Nat.le_of_ble_eq_true rfl)⟩ rfl (cs_use (cs_Mo_put (S := (en_F S.1 (i / 4), S.2)) (r := rec_ S.1) ((en_oth S.1 (i / 4) 60 11 (by omega)).trans hr) hr2 (fun M hS => ?_)) hS)
    refine jj_aload_n 1 dd_Mo_done_36 rfl ?_
    refine jj_rS (n := 65) hS dd_Mo_done_37 ff_Mo_13 rfl (fun _ => rfl) rfl ?_
    refine jj_iload_n 2 dd_Mo_done_40 rfl ?_
    refine jj_iconst (v := 0) dd_Mo_done_41 rfl ?_
    refine jj_asS hS dd_Mo_done_42 rfl (vp_in_nI (n := i) (by omega) (by decide)) (i) (nI_clamp (n := i) (by omega)) (fun M hS => ?_)
    refine jj_aload_n 1 dd_Mo_done_43 rfl ?_
    refine jj_rS (n := 77) hS dd_Mo_done_44 ff_Mo_47 rfl (fun _ => rfl) rfl ?_
    refine jj_iload_n 2 dd_Mo_done_47 rfl ?_
    refine jj_iconst (v := 4) dd_Mo_done_48 rfl ?_
    refine jj_idiv dd_Mo_done_49 (by decide) ?_
    refine jj_ti (x' := nI ((i) / 4)) (pk_div (a := i) (d := 4) (by omega) (by decide) (by decide)) ?_
    refine jj_zS hS dd_Mo_done_50 rfl (vp_in_nI (n := (i) / 4) (by omega) (by decide)) ((i) / 4) (nI_clamp (n := (i) / 4) (by omega)) ?_
    refine jj_if_ne (tgt := 58) dd_Mo_done_51 (by decide) (fun h51 => ?_) (fun h51 => ?_)
    · skip
      refine jj_iconst (v := 0) dd_Mo_done_58 rfl ?_
      refine jj_iret dd_Mo_done_59 rfl rfl ?_
      refine ⟨_, hS, ?_⟩
      try simp [uf_at, pu_F, en_oth, -Int32.not_lt, -Int32.not_le] at h9 h51
      simpa [uf_at, pu_F, en_oth, dn_F, dn_r, -Int32.not_lt, -Int32.not_le, h9, h51] using hQ
    · skip
      refine jj_iconst (v := 1) dd_Mo_done_54 rfl ?_
      refine jj_goto (tgt := 59) dd_Mo_done_55 (by decide) ?_
      refine jj_iret dd_Mo_done_59 rfl rfl ?_
      refine ⟨_, hS, ?_⟩
      try simp [uf_at, pu_F, en_oth, -Int32.not_lt, -Int32.not_le] at h9 h51
      simpa [uf_at, pu_F, en_oth, dn_F, dn_r, -Int32.not_lt, -Int32.not_le, h9, h51] using hQ
set_option maxRecDepth 20000 in
theorem cs_Mo_voids {l : Launch} {g : Nat → Nat} {S : ss_} {Q : Option Value → ss_ → Prop} {i : Nat} {x : Int32} (hi : i < 12) (hr : S.1 60 11 = nI (rec_ S.1)) (hr2 : rec_ S.1 < 1540) (hQ : Q (some (.int (vo_r S.1 i x))) (vo_F S.1 i x, S.2)) : cs_ l yy_Mo_voids bb_Mo_voids 4 (some .boolean) 1 0 0 g [.ref (g 60), .int (nI i), .int x] S Q := by
  intro M hS
  refine ct_of (by decide) (Nat.le_of_ble_eq_true rfl) (fun G A => ?_)
  refine jj_aload_n 0 dd_Mo_voids_0 rfl ?_
  refine jj_iload_n 1 dd_Mo_voids_1 rfl ?_
  refine jj_iconst (v := 4) dd_Mo_voids_2 rfl ?_
  refine jj_idiv dd_Mo_voids_3 (by decide) ?_
  refine jj_ti (x' := nI ((i) / 4)) (pk_div (a := i) (d := 4) (by omega) (by decide) (by decide)) ?_
  refine jj_callV (ci := 7) [_] [] 0 0 dd_Mo_voids_4 cs_Mo_102 ci_Mo_102 (hS.1.1 60 _ rfl) ⟨by decide, rfl⟩ rfl (Nat.le_of_ble_eq_true rfl) ⟨(Nat.le_of_ble_eq_true rfl), (Nat.le_of_ble_eq_true rfl)⟩ ⟨(Nat.le_of_ble_eq_true rfl), (Nat.le_of_ble_eq_true rfl)⟩ rfl (cs_use (cs_Mo_entry (t := i / 4) (by omega) (fun M hS => ?_)) hS)
  refine jj_istore_n (lv' := [(3, .int _), (0, .ref (g 60)), (1, .int (nI (i))), (2, .int _)]) dd_Mo_voids_7 (Nat.le_of_ble_eq_true rfl) rfl ?_
  refine jj_iload_n 0 dd_Mo_voids_8 rfl ?_
  refine jj_if_eq (tgt := 47) dd_Mo_voids_9 (by decide) (fun h9 => ?_) (fun h9 => ?_)
  · skip
    refine jj_aload_n 1 dd_Mo_voids_47 rfl ?_
    refine jj_rS (n := 77) hS dd_Mo_voids_48 ff_Mo_47 rfl (fun _ => rfl) rfl ?_
    refine jj_iload_n 2 dd_Mo_voids_51 rfl ?_
    refine jj_iconst (v := 4) dd_Mo_voids_52 rfl ?_
    refine jj_idiv dd_Mo_voids_53 (by decide) ?_
    refine jj_ti (x' := nI ((i) / 4)) (pk_div (a := i) (d := 4) (by omega) (by decide) (by decide)) ?_
    refine jj_zS hS dd_Mo_voids_54 rfl (vp_in_nI (n := (i) / 4) (by omega) (by decide)) ((i) / 4) (nI_clamp (n := (i) / 4) (by omega)) ?_
    refine jj_if_ne (tgt := 62) dd_Mo_voids_55 (by decide) (fun h55 => ?_) (fun h55 => ?_)
    · skip
      refine jj_iconst (v := 0) dd_Mo_voids_62 rfl ?_
      refine jj_iret dd_Mo_voids_63 rfl rfl ?_
      refine ⟨_, hS, ?_⟩
      try simp [uf_at, pu_F, en_oth, -Int32.not_lt, -Int32.not_le] at h9 h55
      simpa [uf_at, pu_F, en_oth, vo_F, vo_r, -Int32.not_lt, -Int32.not_le, h9, h55] using hQ
    · skip
      refine jj_iconst (v := 1) dd_Mo_voids_58 rfl ?_
      refine jj_goto (tgt := 63) dd_Mo_voids_59 (by decide) ?_
      refine jj_iret dd_Mo_voids_63 rfl rfl ?_
      refine ⟨_, hS, ?_⟩
      try simp [uf_at, pu_F, en_oth, -Int32.not_lt, -Int32.not_le] at h9 h55
      simpa [uf_at, pu_F, en_oth, vo_F, vo_r, -Int32.not_lt, -Int32.not_le, h9, h55] using hQ
  · skip
    refine jj_aload_n 1 dd_Mo_voids_12 rfl ?_
    refine jj_iload_n 2 dd_Mo_voids_13 rfl ?_
    refine jj_iload_n 3 dd_Mo_voids_14 rfl ?_
    refine jj_iload_n 3 dd_Mo_voids_15 rfl ?_
    refine jj_iconst (v := 3) dd_Mo_voids_16 rfl ?_
    refine jj_iconst (v := 0) dd_Mo_voids_17 rfl ?_
    refine jj_callV (ci := 7) [_, _, _, _, _] [] 0 0 dd_Mo_voids_18 cs_Mo_106 ci_Mo_106 (hS.1.1 60 _ rfl) ⟨by decide, rfl⟩ rfl (Nat.le_of_ble_eq_true rfl) ⟨(Nat.le_of_ble_eq_true rfl), (Nat.le_of_ble_eq_true rfl)⟩ ⟨(Nat.le_of_ble_eq_true rfl), (Nat.le_of_ble_eq_true rfl)⟩ rfl (cs_use (cs_Mo_put (S := (en_F S.1 (i / 4), S.2)) (r := rec_ S.1) ((en_oth S.1 (i / 4) 60 11 (by omega)).trans hr) hr2 (fun M hS => ?_)) hS)
    refine jj_aload_n 1 dd_Mo_voids_21 rfl ?_
    refine jj_rS (n := 65) hS dd_Mo_voids_22 ff_Mo_13 rfl (fun _ => rfl) rfl ?_
    refine jj_iload_n 2 dd_Mo_voids_25 rfl ?_
    refine jj_aload_n 1 dd_Mo_voids_26 rfl ?_
    refine jj_rS (n := 65) hS dd_Mo_voids_27 ff_Mo_13 rfl (fun _ => rfl) rfl ?_
    refine jj_iload_n 2 dd_Mo_voids_30 rfl ?_
    refine jj_aS hS dd_Mo_voids_31 rfl (vp_in_nI (n := i) (by omega) (by decide)) (i) (nI_clamp (n := i) (by omega)) ?_
    refine jj_iload_n 3 dd_Mo_voids_32 rfl ?_
    refine jj_icmp_ne (tgt := 40) dd_Mo_voids_33 (by decide) (fun h33 => ?_) (fun h33 => ?_)
    · skip
      refine jj_aload_n 1 dd_Mo_voids_40 rfl ?_
      refine jj_rS (n := 65) hS dd_Mo_voids_41 ff_Mo_13 rfl (fun _ => rfl) rfl ?_
      refine jj_iload_n 2 dd_Mo_voids_44 rfl ?_
      refine jj_aS hS dd_Mo_voids_45 rfl (vp_in_nI (n := i) (by omega) (by decide)) (i) (nI_clamp (n := i) (by omega)) ?_
      refine jj_asS hS dd_Mo_voids_46 rfl (vp_in_nI (n := i) (by omega) (by decide)) (i) (nI_clamp (n := i) (by omega)) (fun M hS => ?_)
      refine jj_aload_n 1 dd_Mo_voids_47 rfl ?_
      refine jj_rS (n := 77) hS dd_Mo_voids_48 ff_Mo_47 rfl (fun _ => rfl) rfl ?_
      refine jj_iload_n 2 dd_Mo_voids_51 rfl ?_
      refine jj_iconst (v := 4) dd_Mo_voids_52 rfl ?_
      refine jj_idiv dd_Mo_voids_53 (by decide) ?_
      refine jj_ti (x' := nI ((i) / 4)) (pk_div (a := i) (d := 4) (by omega) (by decide) (by decide)) ?_
      refine jj_zS hS dd_Mo_voids_54 rfl (vp_in_nI (n := (i) / 4) (by omega) (by decide)) ((i) / 4) (nI_clamp (n := (i) / 4) (by omega)) ?_
      refine jj_if_ne (tgt := 62) dd_Mo_voids_55 (by decide) (fun h55 => ?_) (fun h55 => ?_)
      · skip
        refine jj_iconst (v := 0) dd_Mo_voids_62 rfl ?_
        refine jj_iret dd_Mo_voids_63 rfl rfl ?_
        refine ⟨_, hS, ?_⟩
        try simp [uf_at, pu_F, en_oth, -Int32.not_lt, -Int32.not_le] at h9 h33 h55
        simpa [uf_at, pu_F, en_oth, vo_F, vo_r, -Int32.not_lt, -Int32.not_le, h9, h33, h55] using hQ
      · skip
        refine jj_iconst (v := 1) dd_Mo_voids_58 rfl ?_
        refine jj_goto (tgt := 63) dd_Mo_voids_59 (by decide) ?_
        refine jj_iret dd_Mo_voids_63 rfl rfl ?_
        refine ⟨_, hS, ?_⟩
        try simp [uf_at, pu_F, en_oth, -Int32.not_lt, -Int32.not_le] at h9 h33 h55
        simpa [uf_at, pu_F, en_oth, vo_F, vo_r, -Int32.not_lt, -Int32.not_le, h9, h33, h55] using hQ
    · skip
      refine jj_iconst (v := 0) dd_Mo_voids_36 rfl ?_
      refine jj_goto (tgt := 46) dd_Mo_voids_37 (by decide) ?_
      refine jj_asS hS dd_Mo_voids_46 rfl (vp_in_nI (n := i) (by omega) (by decide)) (i) (nI_clamp (n := i) (by omega)) (fun M hS => ?_)
      refine jj_aload_n 1 dd_Mo_voids_47 rfl ?_
      refine jj_rS (n := 77) hS dd_Mo_voids_48 ff_Mo_47 rfl (fun _ => rfl) rfl ?_
      refine jj_iload_n 2 dd_Mo_voids_51 rfl ?_
      refine jj_iconst (v := 4) dd_Mo_voids_52 rfl ?_
      refine jj_idiv dd_Mo_voids_53 (by decide) ?_
      refine jj_ti (x' := nI ((i) / 4)) (pk_div (a := i) (d := 4) (by omega) (by decide) (by decide)) ?_
      refine jj_zS hS dd_Mo_voids_54 rfl (vp_in_nI (n := (i) / 4) (by omega) (by decide)) ((i) / 4) (nI_clamp (n := (i) / 4) (by omega)) ?_
      refine jj_if_ne (tgt := 62) dd_Mo_voids_55 (by decide) (fun h55 => ?_) (fun h55 => ?_)
      · skip
        refine jj_iconst (v := 0) dd_Mo_voids_62 rfl ?_
        refine jj_iret dd_Mo_voids_63 rfl rfl ?_
        refine ⟨_, hS, ?_⟩
        try simp [uf_at, pu_F, en_oth, -Int32.not_lt, -Int32.not_le] at h9 h33 h55
        simpa [uf_at, pu_F, en_oth, vo_F, vo_r, -Int32.not_lt, -Int32.not_le, h9, h33, h55] using hQ
      · skip
        refine jj_iconst (v := 1) dd_Mo_voids_58 rfl ?_
        refine jj_goto (tgt := 63) dd_Mo_voids_59 (by decide) ?_
        refine jj_iret dd_Mo_voids_63 rfl rfl ?_
        refine ⟨_, hS, ?_⟩
        try simp [uf_at, pu_F, en_oth, -Int32.not_lt, -Int32.not_le] at h9 h33 h55
        simpa [uf_at, pu_F, en_oth, vo_F, vo_r, -Int32.not_lt, -Int32.not_le, h9, h33, h55] using hQ
set_option maxRecDepth 20000 in
theorem cs_Mo_locks {l : Launch} {g : Nat → Nat} {S : ss_} {Q : Option Value → ss_ → Prop} {c i : Nat} {p : Int32} (hc : c < 4) (hi : i < 12) (hQ : Q (some (.int (lo_r S.1 c i p))) (lo_F S.1 c i p, S.2)) : cs_ l yy_Mo_locks bb_Mo_locks 5 (some .boolean) 1 0 0 g [.ref (g 60), .int (nI c), .int (nI i), .int p] S Q := by
  intro M hS
  refine ct_of (by decide) (Nat.le_of_ble_eq_true rfl) (fun G A => ?_)
  refine jj_aload_n 0 dd_Mo_locks_0 rfl ?_
  refine jj_iload_n 2 dd_Mo_locks_1 rfl ?_
  refine jj_iconst (v := 4) dd_Mo_locks_2 rfl ?_
  refine jj_idiv dd_Mo_locks_3 (by decide) ?_
  refine jj_ti (x' := nI ((i) / 4)) (pk_div (a := i) (d := 4) (by omega) (by decide) (by decide)) ?_
  refine jj_callV (ci := 7) [_] [] 0 0 dd_Mo_locks_4 cs_Mo_102 ci_Mo_102 (hS.1.1 60 _ rfl) ⟨by decide, rfl⟩ rfl (Nat.le_of_ble_eq_true rfl) ⟨(Nat.le_of_ble_eq_true rfl), (Nat.le_of_ble_eq_true rfl)⟩ ⟨(Nat.le_of_ble_eq_true rfl), (Nat.le_of_ble_eq_true rfl)⟩ rfl (cs_use (cs_Mo_entry (t := i / 4) (by omega) (fun M hS => ?_)) hS)
  refine jj_istore (lv' := [(4, .int _), (0, .ref (g 60)), (1, .int (nI (c))), (2, .int (nI (i))), (3, .int _)]) dd_Mo_locks_7 (Nat.le_of_ble_eq_true rfl) rfl ?_
  refine jj_iload 0 dd_Mo_locks_9 rfl ?_
  refine jj_if_eq (tgt := 84) dd_Mo_locks_11 (by decide) (fun h11 => ?_) (fun h11 => ?_)
  · skip
    refine jj_aload_n 1 dd_Mo_locks_84 rfl ?_
    refine jj_rS (n := 77) hS dd_Mo_locks_85 ff_Mo_47 rfl (fun _ => rfl) rfl ?_
    refine jj_iload_n 3 dd_Mo_locks_88 rfl ?_
    refine jj_iconst (v := 4) dd_Mo_locks_89 rfl ?_
    refine jj_idiv dd_Mo_locks_90 (by decide) ?_
    refine jj_ti (x' := nI ((i) / 4)) (pk_div (a := i) (d := 4) (by omega) (by decide) (by decide)) ?_
    refine jj_zS hS dd_Mo_locks_91 rfl (vp_in_nI (n := (i) / 4) (by omega) (by decide)) ((i) / 4) (nI_clamp (n := (i) / 4) (by omega)) ?_
    refine jj_if_ne (tgt := 99) dd_Mo_locks_92 (by decide) (fun h92 => ?_) (fun h92 => ?_)
    · skip
      refine jj_iconst (v := 0) dd_Mo_locks_99 rfl ?_
      refine jj_iret dd_Mo_locks_100 rfl rfl ?_
      refine ⟨_, hS, ?_⟩
      try simp [uf_at, pu_F, en_oth, -Int32.not_lt, -Int32.not_le] at h11 h92
      simpa [uf_at, pu_F, en_oth, lo_F, lo_r, -Int32.not_lt, -Int32.not_le, h11, h92] using hQ
    · skip
      refine jj_iconst (v := 1) dd_Mo_locks_95 rfl ?_
      refine jj_goto (tgt := 100) dd_Mo_locks_96 (by decide) ?_
      refine jj_iret dd_Mo_locks_100 rfl rfl ?_
      refine ⟨_, hS, ?_⟩
      try simp [uf_at, pu_F, en_oth, -Int32.not_lt, -Int32.not_le] at h11 h92
      simpa [uf_at, pu_F, en_oth, lo_F, lo_r, -Int32.not_lt, -Int32.not_le, h11, h92] using hQ
  · skip
    refine jj_aload_n 1 dd_Mo_locks_14 rfl ?_
    refine jj_rS (n := 65) hS dd_Mo_locks_15 ff_Mo_13 rfl (fun _ => rfl) rfl ?_
    refine jj_iload_n 3 dd_Mo_locks_18 rfl ?_
    refine jj_aload_n 1 dd_Mo_locks_19 rfl ?_
    refine jj_rS (n := 84) hS dd_Mo_locks_20 ff_Mo_69 rfl (fun _ => rfl) rfl ?_
    refine jj_iload_n 2 dd_Mo_locks_23 rfl ?_
    refine jj_aS hS dd_Mo_locks_24 rfl (vp_in_nI (n := c) (by omega) (by decide)) (c) (nI_clamp (n := c) (by omega)) ?_
    refine jj_asS hS dd_Mo_locks_25 rfl (vp_in_nI (n := i) (by omega) (by decide)) (i) (nI_clamp (n := i) (by omega)) (fun M hS => ?_)
    refine jj_aload_n 1 dd_Mo_locks_26 rfl ?_
    refine jj_rS (n := 66) hS dd_Mo_locks_27 ff_Mo_17 rfl (fun _ => rfl) rfl ?_
    refine jj_iload_n 3 dd_Mo_locks_30 rfl ?_
    refine jj_iload_n 4 dd_Mo_locks_31 rfl ?_
    refine jj_asS hS dd_Mo_locks_32 rfl (vp_in_nI (n := i) (by omega) (by decide)) (i) (nI_clamp (n := i) (by omega)) (fun M hS => ?_)
    refine jj_aload_n 1 dd_Mo_locks_33 rfl ?_
    refine jj_rS (n := 67) hS dd_Mo_locks_34 ff_Mo_20 rfl (fun _ => rfl) rfl ?_
    refine jj_iload_n 3 dd_Mo_locks_37 rfl ?_
    refine jj_iload_n 2 dd_Mo_locks_38 rfl ?_
    refine jj_asS hS dd_Mo_locks_39 rfl (vp_in_nI (n := i) (by omega) (by decide)) (i) (nI_clamp (n := i) (by omega)) (fun M hS => ?_)
    refine jj_aload_n 1 dd_Mo_locks_40 rfl ?_
    refine jj_rS (n := 68) hS dd_Mo_locks_41 ff_Mo_23 rfl (fun _ => rfl) rfl ?_
    refine jj_iload_n 3 dd_Mo_locks_44 rfl ?_
    refine jj_aload_n 1 dd_Mo_locks_45 rfl ?_
    refine jj_gS hS dd_Mo_locks_46 ff_Mo_110 rfl (fun _ => rfl) ?_
    refine jj_asS hS dd_Mo_locks_49 rfl (vp_in_nI (n := i) (by omega) (by decide)) (i) (nI_clamp (n := i) (by omega)) (fun M hS => ?_)
    refine jj_aload_n 1 dd_Mo_locks_50 rfl ?_
    refine jj_rS (n := 69) hS dd_Mo_locks_51 ff_Mo_26 rfl (fun _ => rfl) rfl ?_
    refine jj_iload_n 3 dd_Mo_locks_54 rfl ?_
    refine jj_aload_n 1 dd_Mo_locks_55 rfl ?_
    refine jj_rS (n := 87) hS dd_Mo_locks_56 ff_Mo_78 rfl (fun _ => rfl) rfl ?_
    refine jj_bipush (v := 12) dd_Mo_locks_59 rfl ?_
    refine jj_iload_n 2 dd_Mo_locks_61 rfl ?_
    refine jj_imul dd_Mo_locks_62 ?_
    refine jj_ti (x' := nI (12 * c)) (pk_mul (12) (c)) ?_
    refine jj_iload_n 3 dd_Mo_locks_63 rfl ?_
    refine jj_iadd dd_Mo_locks_64 ?_
    refine jj_ti (x' := nI ((12 * c) + (i))) (nI_add (12 * c) (i)) ?_
    refine jj_aS hS dd_Mo_locks_65 rfl (vp_in_nI (n := (12 * c) + (i)) (by omega) (by decide)) ((12 * c) + (i)) (nI_clamp (n := (12 * c) + (i)) (by omega)) ?_
    refine jj_asS hS dd_Mo_locks_66 rfl (vp_in_nI (n := i) (by omega) (by decide)) (i) (nI_clamp (n := i) (by omega)) (fun M hS => ?_)
    refine jj_aload_n 1 dd_Mo_locks_67 rfl ?_
    refine jj_rS (n := 70) hS dd_Mo_locks_68 ff_Mo_29 rfl (fun _ => rfl) rfl ?_
    refine jj_iload_n 3 dd_Mo_locks_71 rfl ?_
    refine jj_aload_n 1 dd_Mo_locks_72 rfl ?_
    refine jj_rS (n := 88) hS dd_Mo_locks_73 ff_Mo_81 rfl (fun _ => rfl) rfl ?_
    refine jj_bipush (v := 12) dd_Mo_locks_76 rfl ?_
    refine jj_iload_n 2 dd_Mo_locks_78 rfl ?_
    refine jj_imul dd_Mo_locks_79 ?_
    refine jj_ti (x' := nI (12 * c)) (pk_mul (12) (c)) ?_
    refine jj_iload_n 3 dd_Mo_locks_80 rfl ?_
    refine jj_iadd dd_Mo_locks_81 ?_
    refine jj_ti (x' := nI ((12 * c) + (i))) (nI_add (12 * c) (i)) ?_
    refine jj_aS hS dd_Mo_locks_82 rfl (vp_in_nI (n := (12 * c) + (i)) (by omega) (by decide)) ((12 * c) + (i)) (nI_clamp (n := (12 * c) + (i)) (by omega)) ?_
    refine jj_asS hS dd_Mo_locks_83 rfl (vp_in_nI (n := i) (by omega) (by decide)) (i) (nI_clamp (n := i) (by omega)) (fun M hS => ?_)
    refine jj_aload_n 1 dd_Mo_locks_84 rfl ?_
    refine jj_rS (n := 77) hS dd_Mo_locks_85 ff_Mo_47 rfl (fun _ => rfl) rfl ?_
    refine jj_iload_n 3 dd_Mo_locks_88 rfl ?_
    refine jj_iconst (v := 4) dd_Mo_locks_89 rfl ?_
    refine jj_idiv dd_Mo_locks_90 (by decide) ?_
    refine jj_ti (x' := nI ((i) / 4)) (pk_div (a := i) (d := 4) (by omega) (by decide) (by decide)) ?_
    refine jj_zS hS dd_Mo_locks_91 rfl (vp_in_nI (n := (i) / 4) (by omega) (by decide)) ((i) / 4) (nI_clamp (n := (i) / 4) (by omega)) ?_
    refine jj_if_ne (tgt := 99) dd_Mo_locks_92 (by decide) (fun h92 => ?_) (fun h92 => ?_)
    · skip
      refine jj_iconst (v := 0) dd_Mo_locks_99 rfl ?_
      refine jj_iret dd_Mo_locks_100 rfl rfl ?_
      refine ⟨_, hS, ?_⟩
      try simp [uf_at, pu_F, en_oth, -Int32.not_lt, -Int32.not_le] at h11 h92
      simpa [uf_at, pu_F, en_oth, lo_F, lo_r, -Int32.not_lt, -Int32.not_le, h11, h92] using hQ
    · skip
      refine jj_iconst (v := 1) dd_Mo_locks_95 rfl ?_
      refine jj_goto (tgt := 100) dd_Mo_locks_96 (by decide) ?_
      refine jj_iret dd_Mo_locks_100 rfl rfl ?_
      refine ⟨_, hS, ?_⟩
      try simp [uf_at, pu_F, en_oth, -Int32.not_lt, -Int32.not_le] at h11 h92
      simpa [uf_at, pu_F, en_oth, lo_F, lo_r, -Int32.not_lt, -Int32.not_le, h11, h92] using hQ
def dc_go (F : Nat → Nat → Int32) (c x : Int32) : Nat → Nat → Int32 → Int32
  | 0, _, z => z
  | n + 1, k, z => dc_go F c x n (k + 1) (if F 72 k = c ∧ F 74 k = x ∧ (F 75 k = 1 ∨ F 75 k = 2) then F 73 k else z)
def dc_ (F : Nat → Nat → Int32) (c x : Int32) : Int32 := dc_go F c x (rec_ F) 0 0
def ov_go (F : Nat → Nat → Int32) (c x : Int32) : Nat → Nat → Int32 → Int32
  | 0, _, z => z
  | n + 1, k, z => ov_go F c x n (k + 1) (if ¬ z = 0 ∨ (F 72 k = c ∧ (((F 75 k = 1 ∨ F 75 k = 2) ∧ ¬ F 73 k ≤ x) ∨ (F 75 k = 3 ∧ F 74 k = x))) then 1 else 0)
def ov_ (F : Nat → Nat → Int32) (c x : Int32) : Int32 := ov_go F c x (rec_ F) 0 0
def la_go (F : Nat → Nat → Int32) (c x : Int32) : Nat → Nat → Int32 → Int32
  | 0, _, z => z
  | n + 1, k, z => la_go F c x n (k + 1) (if (F 72 k = c ∧ (F 75 k = 1 ∨ F 75 k = 2) ∧ ¬ x ≤ F 73 k) ∧ (z < 0 ∨ ¬ F 73 k ≤ F 73 z.toNatClampNeg) then nI k else z)
def la_ (F : Nat → Nat → Int32) (c x : Int32) : Int32 := la_go F c x (rec_ F) 0 (-1)
def ix_ (z : Int32) (n : Nat) : Prop := z < 0 ∨ vp_in z n
theorem ix_in {z : Int32} {n : Nat} (h : ix_ z n) (h0 : ¬ z < 0) : vp_in z n := h.resolve_left h0
theorem mm_rfl (x : Int32) : x ≤ x := by
  rw [Int32.le_iff_toInt_le]
  omega
set_option maxRecDepth 20000 in
theorem cs_Mo_decision {l : Launch} {g : Nat → Nat} {S : ss_} {Q : Option Value → ss_ → Prop} {c x : Int32} (hr : S.1 60 11 = nI (rec_ S.1)) (hr2 : rec_ S.1 ≤ 1540) (hQ : Q (some (.int (dc_ S.1 c x))) S) : cs_ l yy_Mo_decision bb_Mo_decision 5 (some .int) 0 0 0 g [.ref (g 60), .int c, .int x] S Q := by
  intro M hS
  refine ct_of (by decide) (Nat.le_of_ble_eq_true rfl) (fun G A => ?_)
  have loop : ∀ (n k : Nat) (z : Int32), k + n = rec_ S.1 → Q (some (.int (dc_go S.1 c x n k z))) S → jj_ l yy_Mo_decision bb_Mo_decision 5 (some .int) G (mm_R 0 0 0) A (mm_ret (qs_ g Q)) 0 0 5 [(4, .int (nI (k))), (3, .int (z)), (0, .ref (g 60)), (1, .int (c)), (2, .int (x))] [] M := by
    intro n
    induction n with
    | zero =>
      intro k z hk hq
      have hk : k = rec_ S.1 := by omega
      subst hk
      refine jj_iload 0 dd_Mo_decision_5 rfl ?_
      refine jj_aload_n 2 dd_Mo_decision_7 rfl ?_
      refine jj_gS hS dd_Mo_decision_8 ff_Mo_99 rfl (fun _ => rfl) ?_
      refine jj_ti (x' := nI (rec_ S.1)) hr ?_
      refine jj_icmp_ge (tgt := 72) dd_Mo_decision_11 (by decide) (fun h11 => ?_) (fun h11 => ?_)
      · skip
        refine jj_iload_n 1 dd_Mo_decision_72 rfl ?_
        refine jj_iret dd_Mo_decision_73 rfl rfl ?_
        exact ⟨_, hS, hq⟩
      · exact absurd (mm_le (fun h => absurd h (mm_nlt (mm_rfl _)))) h11
    | succ n ih =>
      intro k z hk hq
      refine jj_iload 0 dd_Mo_decision_5 rfl ?_
      refine jj_aload_n 2 dd_Mo_decision_7 rfl ?_
      refine jj_gS hS dd_Mo_decision_8 ff_Mo_99 rfl (fun _ => rfl) ?_
      refine jj_ti (x' := nI (rec_ S.1)) hr ?_
      refine jj_icmp_ge (tgt := 72) dd_Mo_decision_11 (by decide) (fun h11 => ?_) (fun h11 => ?_)
      · exact absurd h11 (nI_ge (by omega) (by omega))
      · skip
        refine jj_aload_n 2 dd_Mo_decision_14 rfl ?_
        refine jj_rS (n := 72) hS dd_Mo_decision_15 ff_Mo_32 rfl (fun _ => rfl) rfl ?_
        refine jj_iload 0 dd_Mo_decision_18 rfl ?_
        refine jj_aS hS dd_Mo_decision_20 rfl (vp_in_nI (n := k) (by omega) (by decide)) (k) (nI_clamp (n := k) (by omega)) ?_
        refine jj_iload_n 3 dd_Mo_decision_21 rfl ?_
        refine jj_icmp_ne (tgt := 66) dd_Mo_decision_22 (by decide) (fun h22 => ?_) (fun h22 => ?_)
        · skip
          refine jj_iinc 0 (lv' := [(4, .int (nI (k + 1))), (3, .int (z)), (0, .ref (g 60)), (1, .int (c)), (2, .int (x))]) dd_Mo_decision_66 rfl (nI_1 k) (Nat.le_of_ble_eq_true rfl) rfl ?_
          refine jj_goto (tgt := 5) dd_Mo_decision_69 (by decide) ?_
          exact ih _ _ (by omega) (by first | (simpa [dc_go, -Int32.not_lt, -Int32.not_le, h11, h22] using hq) | (exfalso; simp_all; done))
        · skip
          refine jj_aload_n 2 dd_Mo_decision_25 rfl ?_
          refine jj_rS (n := 74) hS dd_Mo_decision_26 ff_Mo_38 rfl (fun _ => rfl) rfl ?_
          refine jj_iload 0 dd_Mo_decision_29 rfl ?_
          refine jj_aS hS dd_Mo_decision_31 rfl (vp_in_nI (n := k) (by omega) (by decide)) (k) (nI_clamp (n := k) (by omega)) ?_
          refine jj_iload_n 4 dd_Mo_decision_32 rfl ?_
          refine jj_icmp_ne (tgt := 66) dd_Mo_decision_33 (by decide) (fun h33 => ?_) (fun h33 => ?_)
          · skip
            refine jj_iinc 0 (lv' := [(4, .int (nI (k + 1))), (3, .int (z)), (0, .ref (g 60)), (1, .int (c)), (2, .int (x))]) dd_Mo_decision_66 rfl (nI_1 k) (Nat.le_of_ble_eq_true rfl) rfl ?_
            refine jj_goto (tgt := 5) dd_Mo_decision_69 (by decide) ?_
            exact ih _ _ (by omega) (by first | (simpa [dc_go, -Int32.not_lt, -Int32.not_le, h11, h22, h33] using hq) | (exfalso; simp_all; done))
          · skip
            refine jj_aload_n 2 dd_Mo_decision_36 rfl ?_
            refine jj_rS (n := 75) hS dd_Mo_decision_37 ff_Mo_41 rfl (fun _ => rfl) rfl ?_
            refine jj_iload 0 dd_Mo_decision_40 rfl ?_
            refine jj_aS hS dd_Mo_decision_42 rfl (vp_in_nI (n := k) (by omega) (by decide)) (k) (nI_clamp (n := k) (by omega)) ?_
            refine jj_iconst (v := 1) dd_Mo_decision_43 rfl ?_
            refine jj_icmp_eq (tgt := 58) dd_Mo_decision_44 (by decide) (fun h44 => ?_) (fun h44 => ?_)
            · skip
              refine jj_aload_n 2 dd_Mo_decision_58 rfl ?_
              refine jj_rS (n := 73) hS dd_Mo_decision_59 ff_Mo_35 rfl (fun _ => rfl) rfl ?_
              refine jj_iload 0 dd_Mo_decision_62 rfl ?_
              refine jj_aS hS dd_Mo_decision_64 rfl (vp_in_nI (n := k) (by omega) (by decide)) (k) (nI_clamp (n := k) (by omega)) ?_
              refine jj_istore_n (lv' := [(3, .int _), (4, .int (nI (k))), (0, .ref (g 60)), (1, .int (c)), (2, .int (x))]) dd_Mo_decision_65 (Nat.le_of_ble_eq_true rfl) rfl ?_
              refine jj_iinc 1 (lv' := [(4, .int (nI (k + 1))), (3, .int _), (0, .ref (g 60)), (1, .int (c)), (2, .int (x))]) dd_Mo_decision_66 rfl (nI_1 k) (Nat.le_of_ble_eq_true rfl) rfl ?_
              refine jj_goto (tgt := 5) dd_Mo_decision_69 (by decide) ?_
              exact ih _ _ (by omega) (by first | (simpa [dc_go, -Int32.not_lt, -Int32.not_le, h11, h22, h33, h44] using hq) | (exfalso; simp_all; done))
            · skip
              refine jj_aload_n 2 dd_Mo_decision_47 rfl ?_
              refine jj_rS (n := 75) hS dd_Mo_decision_48 ff_Mo_41 rfl (fun _ => rfl) rfl ?_
              refine jj_iload 0 dd_Mo_decision_51 rfl ?_
              refine jj_aS hS dd_Mo_decision_53 rfl (vp_in_nI (n := k) (by omega) (by decide)) (k) (nI_clamp (n := k) (by omega)) ?_
              refine jj_iconst (v := 2) dd_Mo_decision_54 rfl ?_
              refine jj_icmp_ne (tgt := 66) dd_Mo_decision_55 (by decide) (fun h55 => ?_) (fun h55 => ?_)
              · skip
                refine jj_iinc 0 (lv' := [(4, .int (nI (k + 1))), (3, .int (z)), (0, .ref (g 60)), (1, .int (c)), (2, .int (x))]) dd_Mo_decision_66 rfl (nI_1 k) (Nat.le_of_ble_eq_true rfl) rfl ?_
                refine jj_goto (tgt := 5) dd_Mo_decision_69 (by decide) ?_
                exact ih _ _ (by omega) (by first | (simpa [dc_go, -Int32.not_lt, -Int32.not_le, h11, h22, h33, h44, h55] using hq) | (exfalso; simp_all; done))
              · skip
                refine jj_aload_n 2 dd_Mo_decision_58 rfl ?_
                refine jj_rS (n := 73) hS dd_Mo_decision_59 ff_Mo_35 rfl (fun _ => rfl) rfl ?_
                refine jj_iload 0 dd_Mo_decision_62 rfl ?_
                refine jj_aS hS dd_Mo_decision_64 rfl (vp_in_nI (n := k) (by omega) (by decide)) (k) (nI_clamp (n := k) (by omega)) ?_
                refine jj_istore_n (lv' := [(3, .int _), (4, .int (nI (k))), (0, .ref (g 60)), (1, .int (c)), (2, .int (x))]) dd_Mo_decision_65 (Nat.le_of_ble_eq_true rfl) rfl ?_
                refine jj_iinc 1 (lv' := [(4, .int (nI (k + 1))), (3, .int _), (0, .ref (g 60)), (1, .int (c)), (2, .int (x))]) dd_Mo_decision_66 rfl (nI_1 k) (Nat.le_of_ble_eq_true rfl) rfl ?_
                refine jj_goto (tgt := 5) dd_Mo_decision_69 (by decide) ?_
                exact ih _ _ (by omega) (by first | (simpa [dc_go, -Int32.not_lt, -Int32.not_le, h11, h22, h33, h44, h55] using hq) | (exfalso; simp_all; done))
  refine jj_iconst (v := 0) dd_Mo_decision_0 rfl ?_
  refine jj_istore_n (lv' := [(3, .int (0)), (0, .ref (g 60)), (1, .int (c)), (2, .int (x))]) dd_Mo_decision_1 (Nat.le_of_ble_eq_true rfl) rfl ?_
  refine jj_iconst (v := 0) dd_Mo_decision_2 rfl ?_
  refine jj_istore (lv' := [(4, .int (0)), (3, .int (0)), (0, .ref (g 60)), (1, .int (c)), (2, .int (x))]) dd_Mo_decision_3 (Nat.le_of_ble_eq_true rfl) rfl ?_
  exact loop (rec_ S.1) 0 _ (by omega) hQ
set_option maxRecDepth 20000 in
theorem cs_Mo_overtaken {l : Launch} {g : Nat → Nat} {S : ss_} {Q : Option Value → ss_ → Prop} {c x : Int32} (hr : S.1 60 11 = nI (rec_ S.1)) (hr2 : rec_ S.1 ≤ 1540) (hQ : Q (some (.int (ov_ S.1 c x))) S) : cs_ l yy_Mo_overtaken bb_Mo_overtaken 6 (some .boolean) 0 0 0 g [.ref (g 60), .int c, .int x] S Q := by
  intro M hS
  refine ct_of (by decide) (Nat.le_of_ble_eq_true rfl) (fun G A => ?_)
  have loop : ∀ (n k : Nat) (z : Int32), k + n = rec_ S.1 → Q (some (.int (ov_go S.1 c x n k z))) S → (z = 0 ∨ z = 1) → jj_ l yy_Mo_overtaken bb_Mo_overtaken 6 (some .boolean) G (mm_R 0 0 0) A (mm_ret (qs_ g Q)) 0 0 5 [(4, .int (nI (k))), (3, .int (z)), (0, .ref (g 60)), (1, .int (c)), (2, .int (x))] [] M := by
    intro n
    induction n with
    | zero =>
      intro k z hk hq hz
      have hk : k = rec_ S.1 := by omega
      subst hk
      refine jj_iload 0 dd_Mo_overtaken_5 rfl ?_
      refine jj_aload_n 2 dd_Mo_overtaken_7 rfl ?_
      refine jj_gS hS dd_Mo_overtaken_8 ff_Mo_99 rfl (fun _ => rfl) ?_
      refine jj_ti (x' := nI (rec_ S.1)) hr ?_
      refine jj_icmp_ge (tgt := 108) dd_Mo_overtaken_11 (by decide) (fun h11 => ?_) (fun h11 => ?_)
      · skip
        refine jj_iload_n 1 dd_Mo_overtaken_108 rfl ?_
        refine jj_iret dd_Mo_overtaken_109 rfl (mm_bl hz).1 ?_
        exact ⟨_, hS, hq⟩
      · exact absurd (mm_le (fun h => absurd h (mm_nlt (mm_rfl _)))) h11
    | succ n ih =>
      intro k z hk hq hz
      refine jj_iload 0 dd_Mo_overtaken_5 rfl ?_
      refine jj_aload_n 2 dd_Mo_overtaken_7 rfl ?_
      refine jj_gS hS dd_Mo_overtaken_8 ff_Mo_99 rfl (fun _ => rfl) ?_
      refine jj_ti (x' := nI (rec_ S.1)) hr ?_
      refine jj_icmp_ge (tgt := 108) dd_Mo_overtaken_11 (by decide) (fun h11 => ?_) (fun h11 => ?_)
      · exact absurd h11 (nI_ge (by omega) (by omega))
      · skip
        refine jj_aload_n 2 dd_Mo_overtaken_14 rfl ?_
        refine jj_rS (n := 75) hS dd_Mo_overtaken_15 ff_Mo_41 rfl (fun _ => rfl) rfl ?_
        refine jj_iload 0 dd_Mo_overtaken_18 rfl ?_
        refine jj_aS hS dd_Mo_overtaken_20 rfl (vp_in_nI (n := k) (by omega) (by decide)) (k) (nI_clamp (n := k) (by omega)) ?_
        refine jj_iconst (v := 1) dd_Mo_overtaken_21 rfl ?_
        refine jj_icmp_eq (tgt := 36) dd_Mo_overtaken_22 (by decide) (fun h22 => ?_) (fun h22 => ?_)
        · skip
          refine jj_aload_n 2 dd_Mo_overtaken_36 rfl ?_
          refine jj_rS (n := 73) hS dd_Mo_overtaken_37 ff_Mo_35 rfl (fun _ => rfl) rfl ?_
          refine jj_iload 0 dd_Mo_overtaken_40 rfl ?_
          refine jj_aS hS dd_Mo_overtaken_42 rfl (vp_in_nI (n := k) (by omega) (by decide)) (k) (nI_clamp (n := k) (by omega)) ?_
          refine jj_iload_n 4 dd_Mo_overtaken_43 rfl ?_
          refine jj_icmp_le (tgt := 51) dd_Mo_overtaken_44 (by decide) (fun h44 => ?_) (fun h44 => ?_)
          · skip
            refine jj_iconst (v := 0) dd_Mo_overtaken_51 rfl ?_
            refine jj_istore (lv' := [(5, .int (0)), (4, .int (nI (k))), (3, .int (z)), (0, .ref (g 60)), (1, .int (c)), (2, .int (x))]) dd_Mo_overtaken_52 (Nat.le_of_ble_eq_true rfl) rfl ?_
            refine jj_iload_n 2 dd_Mo_overtaken_54 rfl ?_
            refine jj_if_ne (tgt := 96) dd_Mo_overtaken_55 (by decide) (fun h55 => ?_) (fun h55 => ?_)
            · skip
              refine jj_iconst (v := 1) dd_Mo_overtaken_96 rfl ?_
              refine jj_goto (tgt := 101) dd_Mo_overtaken_97 (by decide) ?_
              refine jj_istore_n (lv' := [(3, .int (1)), (5, .int (0)), (4, .int (nI (k))), (0, .ref (g 60)), (1, .int (c)), (2, .int (x))]) dd_Mo_overtaken_101 (Nat.le_of_ble_eq_true rfl) rfl ?_
              refine jj_iinc 2 (lv' := [(4, .int (nI (k + 1))), (3, .int (1)), (5, .int (0)), (0, .ref (g 60)), (1, .int (c)), (2, .int (x))]) dd_Mo_overtaken_102 rfl (nI_1 k) (Nat.le_of_ble_eq_true rfl) rfl ?_
              refine jj_goto (tgt := 5) dd_Mo_overtaken_105 (by decide) ?_
              refine jj_sub [0, 1, 3, 4, 5] rfl ?_
              exact ih _ _ (by omega) (by first | (simpa [ov_go, -Int32.not_lt, -Int32.not_le, h11, h22, h44, h55] using hq) | (exfalso; simp_all; done)) (by first | exact hz | exact Or.inl rfl | exact Or.inr rfl)
            · skip
              refine jj_aload_n 3 dd_Mo_overtaken_58 rfl ?_
              refine jj_rS (n := 72) hS dd_Mo_overtaken_59 ff_Mo_32 rfl (fun _ => rfl) rfl ?_
              refine jj_iload 1 dd_Mo_overtaken_62 rfl ?_
              refine jj_aS hS dd_Mo_overtaken_64 rfl (vp_in_nI (n := k) (by omega) (by decide)) (k) (nI_clamp (n := k) (by omega)) ?_
              refine jj_iload_n 4 dd_Mo_overtaken_65 rfl ?_
              refine jj_icmp_ne (tgt := 100) dd_Mo_overtaken_66 (by decide) (fun h66 => ?_) (fun h66 => ?_)
              · skip
                refine jj_iconst (v := 0) dd_Mo_overtaken_100 rfl ?_
                refine jj_istore_n (lv' := [(3, .int (0)), (5, .int (0)), (4, .int (nI (k))), (0, .ref (g 60)), (1, .int (c)), (2, .int (x))]) dd_Mo_overtaken_101 (Nat.le_of_ble_eq_true rfl) rfl ?_
                refine jj_iinc 2 (lv' := [(4, .int (nI (k + 1))), (3, .int (0)), (5, .int (0)), (0, .ref (g 60)), (1, .int (c)), (2, .int (x))]) dd_Mo_overtaken_102 rfl (nI_1 k) (Nat.le_of_ble_eq_true rfl) rfl ?_
                refine jj_goto (tgt := 5) dd_Mo_overtaken_105 (by decide) ?_
                refine jj_sub [0, 1, 3, 4, 5] rfl ?_
                exact ih _ _ (by omega) (by first | (simpa [ov_go, -Int32.not_lt, -Int32.not_le, h11, h22, h44, h55, h66] using hq) | (exfalso; simp_all; done)) (by first | exact hz | exact Or.inl rfl | exact Or.inr rfl)
              · skip
                refine jj_iload 0 dd_Mo_overtaken_69 rfl ?_
                refine jj_if_ne (tgt := 96) dd_Mo_overtaken_71 (by decide) (fun h => absurd h (by decide)) (fun _ => ?_)
                refine jj_aload_n 3 dd_Mo_overtaken_74 rfl ?_
                refine jj_rS (n := 75) hS dd_Mo_overtaken_75 ff_Mo_41 rfl (fun _ => rfl) rfl ?_
                refine jj_iload 1 dd_Mo_overtaken_78 rfl ?_
                refine jj_aS hS dd_Mo_overtaken_80 rfl (vp_in_nI (n := k) (by omega) (by decide)) (k) (nI_clamp (n := k) (by omega)) ?_
                refine jj_iconst (v := 3) dd_Mo_overtaken_81 rfl ?_
                refine jj_icmp_ne (tgt := 100) dd_Mo_overtaken_82 (by decide) (fun h82 => ?_) (fun h82 => ?_)
                · skip
                  refine jj_iconst (v := 0) dd_Mo_overtaken_100 rfl ?_
                  refine jj_istore_n (lv' := [(3, .int (0)), (5, .int (0)), (4, .int (nI (k))), (0, .ref (g 60)), (1, .int (c)), (2, .int (x))]) dd_Mo_overtaken_101 (Nat.le_of_ble_eq_true rfl) rfl ?_
                  refine jj_iinc 2 (lv' := [(4, .int (nI (k + 1))), (3, .int (0)), (5, .int (0)), (0, .ref (g 60)), (1, .int (c)), (2, .int (x))]) dd_Mo_overtaken_102 rfl (nI_1 k) (Nat.le_of_ble_eq_true rfl) rfl ?_
                  refine jj_goto (tgt := 5) dd_Mo_overtaken_105 (by decide) ?_
                  refine jj_sub [0, 1, 3, 4, 5] rfl ?_
                  exact ih _ _ (by omega) (by first | (simpa [ov_go, -Int32.not_lt, -Int32.not_le, h11, h22, h44, h55, h66, h82] using hq) | (exfalso; simp_all; done)) (by first | exact hz | exact Or.inl rfl | exact Or.inr rfl)
                · skip
                  refine jj_aload_n 3 dd_Mo_overtaken_85 rfl ?_
                  refine jj_rS (n := 74) hS dd_Mo_overtaken_86 ff_Mo_38 rfl (fun _ => rfl) rfl ?_
                  refine jj_iload 1 dd_Mo_overtaken_89 rfl ?_
                  refine jj_aS hS dd_Mo_overtaken_91 rfl (vp_in_nI (n := k) (by omega) (by decide)) (k) (nI_clamp (n := k) (by omega)) ?_
                  refine jj_iload_n 5 dd_Mo_overtaken_92 rfl ?_
                  refine jj_icmp_ne (tgt := 100) dd_Mo_overtaken_93 (by decide) (fun h93 => ?_) (fun h93 => ?_)
                  · skip
                    refine jj_iconst (v := 0) dd_Mo_overtaken_100 rfl ?_
                    refine jj_istore_n (lv' := [(3, .int (0)), (5, .int (0)), (4, .int (nI (k))), (0, .ref (g 60)), (1, .int (c)), (2, .int (x))]) dd_Mo_overtaken_101 (Nat.le_of_ble_eq_true rfl) rfl ?_
                    refine jj_iinc 2 (lv' := [(4, .int (nI (k + 1))), (3, .int (0)), (5, .int (0)), (0, .ref (g 60)), (1, .int (c)), (2, .int (x))]) dd_Mo_overtaken_102 rfl (nI_1 k) (Nat.le_of_ble_eq_true rfl) rfl ?_
                    refine jj_goto (tgt := 5) dd_Mo_overtaken_105 (by decide) ?_
                    refine jj_sub [0, 1, 3, 4, 5] rfl ?_
                    exact ih _ _ (by omega) (by first | (simpa [ov_go, -Int32.not_lt, -Int32.not_le, h11, h22, h44, h55, h66, h82, h93] using hq) | (exfalso; simp_all; done)) (by first | exact hz | exact Or.inl rfl | exact Or.inr rfl)
                  · skip
                    refine jj_iconst (v := 1) dd_Mo_overtaken_96 rfl ?_
                    refine jj_goto (tgt := 101) dd_Mo_overtaken_97 (by decide) ?_
                    refine jj_istore_n (lv' := [(3, .int (1)), (5, .int (0)), (4, .int (nI (k))), (0, .ref (g 60)), (1, .int (c)), (2, .int (x))]) dd_Mo_overtaken_101 (Nat.le_of_ble_eq_true rfl) rfl ?_
                    refine jj_iinc 2 (lv' := [(4, .int (nI (k + 1))), (3, .int (1)), (5, .int (0)), (0, .ref (g 60)), (1, .int (c)), (2, .int (x))]) dd_Mo_overtaken_102 rfl (nI_1 k) (Nat.le_of_ble_eq_true rfl) rfl ?_
                    refine jj_goto (tgt := 5) dd_Mo_overtaken_105 (by decide) ?_
                    refine jj_sub [0, 1, 3, 4, 5] rfl ?_
                    exact ih _ _ (by omega) (by first | (simpa [ov_go, -Int32.not_lt, -Int32.not_le, h11, h22, h44, h55, h66, h82, h93] using hq) | (exfalso; simp_all; done)) (by first | exact hz | exact Or.inl rfl | exact Or.inr rfl)
          · skip
            refine jj_iconst (v := 1) dd_Mo_overtaken_47 rfl ?_
            refine jj_goto (tgt := 52) dd_Mo_overtaken_48 (by decide) ?_
            refine jj_istore (lv' := [(5, .int (1)), (4, .int (nI (k))), (3, .int (z)), (0, .ref (g 60)), (1, .int (c)), (2, .int (x))]) dd_Mo_overtaken_52 (Nat.le_of_ble_eq_true rfl) rfl ?_
            refine jj_iload_n 2 dd_Mo_overtaken_54 rfl ?_
            refine jj_if_ne (tgt := 96) dd_Mo_overtaken_55 (by decide) (fun h55 => ?_) (fun h55 => ?_)
            · skip
              refine jj_iconst (v := 1) dd_Mo_overtaken_96 rfl ?_
              refine jj_goto (tgt := 101) dd_Mo_overtaken_97 (by decide) ?_
              refine jj_istore_n (lv' := [(3, .int (1)), (5, .int (1)), (4, .int (nI (k))), (0, .ref (g 60)), (1, .int (c)), (2, .int (x))]) dd_Mo_overtaken_101 (Nat.le_of_ble_eq_true rfl) rfl ?_
              refine jj_iinc 2 (lv' := [(4, .int (nI (k + 1))), (3, .int (1)), (5, .int (1)), (0, .ref (g 60)), (1, .int (c)), (2, .int (x))]) dd_Mo_overtaken_102 rfl (nI_1 k) (Nat.le_of_ble_eq_true rfl) rfl ?_
              refine jj_goto (tgt := 5) dd_Mo_overtaken_105 (by decide) ?_
              refine jj_sub [0, 1, 3, 4, 5] rfl ?_
              exact ih _ _ (by omega) (by first | (simpa [ov_go, -Int32.not_lt, -Int32.not_le, h11, h22, h44, h55] using hq) | (exfalso; simp_all; done)) (by first | exact hz | exact Or.inl rfl | exact Or.inr rfl)
            · skip
              refine jj_aload_n 3 dd_Mo_overtaken_58 rfl ?_
              refine jj_rS (n := 72) hS dd_Mo_overtaken_59 ff_Mo_32 rfl (fun _ => rfl) rfl ?_
              refine jj_iload 1 dd_Mo_overtaken_62 rfl ?_
              refine jj_aS hS dd_Mo_overtaken_64 rfl (vp_in_nI (n := k) (by omega) (by decide)) (k) (nI_clamp (n := k) (by omega)) ?_
              refine jj_iload_n 4 dd_Mo_overtaken_65 rfl ?_
              refine jj_icmp_ne (tgt := 100) dd_Mo_overtaken_66 (by decide) (fun h66 => ?_) (fun h66 => ?_)
              · skip
                refine jj_iconst (v := 0) dd_Mo_overtaken_100 rfl ?_
                refine jj_istore_n (lv' := [(3, .int (0)), (5, .int (1)), (4, .int (nI (k))), (0, .ref (g 60)), (1, .int (c)), (2, .int (x))]) dd_Mo_overtaken_101 (Nat.le_of_ble_eq_true rfl) rfl ?_
                refine jj_iinc 2 (lv' := [(4, .int (nI (k + 1))), (3, .int (0)), (5, .int (1)), (0, .ref (g 60)), (1, .int (c)), (2, .int (x))]) dd_Mo_overtaken_102 rfl (nI_1 k) (Nat.le_of_ble_eq_true rfl) rfl ?_
                refine jj_goto (tgt := 5) dd_Mo_overtaken_105 (by decide) ?_
                refine jj_sub [0, 1, 3, 4, 5] rfl ?_
                exact ih _ _ (by omega) (by first | (simpa [ov_go, -Int32.not_lt, -Int32.not_le, h11, h22, h44, h55, h66] using hq) | (exfalso; simp_all; done)) (by first | exact hz | exact Or.inl rfl | exact Or.inr rfl)
              · skip
                refine jj_iload 0 dd_Mo_overtaken_69 rfl ?_
                refine jj_if_ne (tgt := 96) dd_Mo_overtaken_71 (by decide) (fun _ => ?_) (fun h => absurd h (by decide))
                refine jj_iconst (v := 1) dd_Mo_overtaken_96 rfl ?_
                refine jj_goto (tgt := 101) dd_Mo_overtaken_97 (by decide) ?_
                refine jj_istore_n (lv' := [(3, .int (1)), (5, .int (1)), (4, .int (nI (k))), (0, .ref (g 60)), (1, .int (c)), (2, .int (x))]) dd_Mo_overtaken_101 (Nat.le_of_ble_eq_true rfl) rfl ?_
                refine jj_iinc 2 (lv' := [(4, .int (nI (k + 1))), (3, .int (1)), (5, .int (1)), (0, .ref (g 60)), (1, .int (c)), (2, .int (x))]) dd_Mo_overtaken_102 rfl (nI_1 k) (Nat.le_of_ble_eq_true rfl) rfl ?_
                refine jj_goto (tgt := 5) dd_Mo_overtaken_105 (by decide) ?_
                refine jj_sub [0, 1, 3, 4, 5] rfl ?_
                exact ih _ _ (by omega) (by first | (simpa [ov_go, -Int32.not_lt, -Int32.not_le, h11, h22, h44, h55, h66] using hq) | (exfalso; simp_all; done)) (by first | exact hz | exact Or.inl rfl | exact Or.inr rfl)
        · skip
          refine jj_aload_n 2 dd_Mo_overtaken_25 rfl ?_
          refine jj_rS (n := 75) hS dd_Mo_overtaken_26 ff_Mo_41 rfl (fun _ => rfl) rfl ?_
          refine jj_iload 0 dd_Mo_overtaken_29 rfl ?_
          refine jj_aS hS dd_Mo_overtaken_31 rfl (vp_in_nI (n := k) (by omega) (by decide)) (k) (nI_clamp (n := k) (by omega)) ?_
          refine jj_iconst (v := 2) dd_Mo_overtaken_32 rfl ?_
          refine jj_icmp_ne (tgt := 51) dd_Mo_overtaken_33 (by decide) (fun h33 => ?_) (fun h33 => ?_)
          · skip
            refine jj_iconst (v := 0) dd_Mo_overtaken_51 rfl ?_
            refine jj_istore (lv' := [(5, .int (0)), (4, .int (nI (k))), (3, .int (z)), (0, .ref (g 60)), (1, .int (c)), (2, .int (x))]) dd_Mo_overtaken_52 (Nat.le_of_ble_eq_true rfl) rfl ?_
            refine jj_iload_n 2 dd_Mo_overtaken_54 rfl ?_
            refine jj_if_ne (tgt := 96) dd_Mo_overtaken_55 (by decide) (fun h55 => ?_) (fun h55 => ?_)
            · skip
              refine jj_iconst (v := 1) dd_Mo_overtaken_96 rfl ?_
              refine jj_goto (tgt := 101) dd_Mo_overtaken_97 (by decide) ?_
              refine jj_istore_n (lv' := [(3, .int (1)), (5, .int (0)), (4, .int (nI (k))), (0, .ref (g 60)), (1, .int (c)), (2, .int (x))]) dd_Mo_overtaken_101 (Nat.le_of_ble_eq_true rfl) rfl ?_
              refine jj_iinc 2 (lv' := [(4, .int (nI (k + 1))), (3, .int (1)), (5, .int (0)), (0, .ref (g 60)), (1, .int (c)), (2, .int (x))]) dd_Mo_overtaken_102 rfl (nI_1 k) (Nat.le_of_ble_eq_true rfl) rfl ?_
              refine jj_goto (tgt := 5) dd_Mo_overtaken_105 (by decide) ?_
              refine jj_sub [0, 1, 3, 4, 5] rfl ?_
              exact ih _ _ (by omega) (by first | (simpa [ov_go, -Int32.not_lt, -Int32.not_le, h11, h22, h33, h55] using hq) | (exfalso; simp_all; done)) (by first | exact hz | exact Or.inl rfl | exact Or.inr rfl)
            · skip
              refine jj_aload_n 3 dd_Mo_overtaken_58 rfl ?_
              refine jj_rS (n := 72) hS dd_Mo_overtaken_59 ff_Mo_32 rfl (fun _ => rfl) rfl ?_
              refine jj_iload 1 dd_Mo_overtaken_62 rfl ?_
              refine jj_aS hS dd_Mo_overtaken_64 rfl (vp_in_nI (n := k) (by omega) (by decide)) (k) (nI_clamp (n := k) (by omega)) ?_
              refine jj_iload_n 4 dd_Mo_overtaken_65 rfl ?_
              refine jj_icmp_ne (tgt := 100) dd_Mo_overtaken_66 (by decide) (fun h66 => ?_) (fun h66 => ?_)
              · skip
                refine jj_iconst (v := 0) dd_Mo_overtaken_100 rfl ?_
                refine jj_istore_n (lv' := [(3, .int (0)), (5, .int (0)), (4, .int (nI (k))), (0, .ref (g 60)), (1, .int (c)), (2, .int (x))]) dd_Mo_overtaken_101 (Nat.le_of_ble_eq_true rfl) rfl ?_
                refine jj_iinc 2 (lv' := [(4, .int (nI (k + 1))), (3, .int (0)), (5, .int (0)), (0, .ref (g 60)), (1, .int (c)), (2, .int (x))]) dd_Mo_overtaken_102 rfl (nI_1 k) (Nat.le_of_ble_eq_true rfl) rfl ?_
                refine jj_goto (tgt := 5) dd_Mo_overtaken_105 (by decide) ?_
                refine jj_sub [0, 1, 3, 4, 5] rfl ?_
                exact ih _ _ (by omega) (by first | (simpa [ov_go, -Int32.not_lt, -Int32.not_le, h11, h22, h33, h55, h66] using hq) | (exfalso; simp_all; done)) (by first | exact hz | exact Or.inl rfl | exact Or.inr rfl)
              · skip
                refine jj_iload 0 dd_Mo_overtaken_69 rfl ?_
                refine jj_if_ne (tgt := 96) dd_Mo_overtaken_71 (by decide) (fun h => absurd h (by decide)) (fun _ => ?_)
                refine jj_aload_n 3 dd_Mo_overtaken_74 rfl ?_
                refine jj_rS (n := 75) hS dd_Mo_overtaken_75 ff_Mo_41 rfl (fun _ => rfl) rfl ?_
                refine jj_iload 1 dd_Mo_overtaken_78 rfl ?_
                refine jj_aS hS dd_Mo_overtaken_80 rfl (vp_in_nI (n := k) (by omega) (by decide)) (k) (nI_clamp (n := k) (by omega)) ?_
                refine jj_iconst (v := 3) dd_Mo_overtaken_81 rfl ?_
                refine jj_icmp_ne (tgt := 100) dd_Mo_overtaken_82 (by decide) (fun h82 => ?_) (fun h82 => ?_)
                · skip
                  refine jj_iconst (v := 0) dd_Mo_overtaken_100 rfl ?_
                  refine jj_istore_n (lv' := [(3, .int (0)), (5, .int (0)), (4, .int (nI (k))), (0, .ref (g 60)), (1, .int (c)), (2, .int (x))]) dd_Mo_overtaken_101 (Nat.le_of_ble_eq_true rfl) rfl ?_
                  refine jj_iinc 2 (lv' := [(4, .int (nI (k + 1))), (3, .int (0)), (5, .int (0)), (0, .ref (g 60)), (1, .int (c)), (2, .int (x))]) dd_Mo_overtaken_102 rfl (nI_1 k) (Nat.le_of_ble_eq_true rfl) rfl ?_
                  refine jj_goto (tgt := 5) dd_Mo_overtaken_105 (by decide) ?_
                  refine jj_sub [0, 1, 3, 4, 5] rfl ?_
                  exact ih _ _ (by omega) (by first | (simpa [ov_go, -Int32.not_lt, -Int32.not_le, h11, h22, h33, h55, h66, h82] using hq) | (exfalso; simp_all; done)) (by first | exact hz | exact Or.inl rfl | exact Or.inr rfl)
                · skip
                  refine jj_aload_n 3 dd_Mo_overtaken_85 rfl ?_
                  refine jj_rS (n := 74) hS dd_Mo_overtaken_86 ff_Mo_38 rfl (fun _ => rfl) rfl ?_
                  refine jj_iload 1 dd_Mo_overtaken_89 rfl ?_
                  refine jj_aS hS dd_Mo_overtaken_91 rfl (vp_in_nI (n := k) (by omega) (by decide)) (k) (nI_clamp (n := k) (by omega)) ?_
                  refine jj_iload_n 5 dd_Mo_overtaken_92 rfl ?_
                  refine jj_icmp_ne (tgt := 100) dd_Mo_overtaken_93 (by decide) (fun h93 => ?_) (fun h93 => ?_)
                  · skip
                    refine jj_iconst (v := 0) dd_Mo_overtaken_100 rfl ?_
                    refine jj_istore_n (lv' := [(3, .int (0)), (5, .int (0)), (4, .int (nI (k))), (0, .ref (g 60)), (1, .int (c)), (2, .int (x))]) dd_Mo_overtaken_101 (Nat.le_of_ble_eq_true rfl) rfl ?_
                    refine jj_iinc 2 (lv' := [(4, .int (nI (k + 1))), (3, .int (0)), (5, .int (0)), (0, .ref (g 60)), (1, .int (c)), (2, .int (x))]) dd_Mo_overtaken_102 rfl (nI_1 k) (Nat.le_of_ble_eq_true rfl) rfl ?_
                    refine jj_goto (tgt := 5) dd_Mo_overtaken_105 (by decide) ?_
                    refine jj_sub [0, 1, 3, 4, 5] rfl ?_
                    exact ih _ _ (by omega) (by first | (simpa [ov_go, -Int32.not_lt, -Int32.not_le, h11, h22, h33, h55, h66, h82, h93] using hq) | (exfalso; simp_all; done)) (by first | exact hz | exact Or.inl rfl | exact Or.inr rfl)
                  · skip
                    refine jj_iconst (v := 1) dd_Mo_overtaken_96 rfl ?_
                    refine jj_goto (tgt := 101) dd_Mo_overtaken_97 (by decide) ?_
                    refine jj_istore_n (lv' := [(3, .int (1)), (5, .int (0)), (4, .int (nI (k))), (0, .ref (g 60)), (1, .int (c)), (2, .int (x))]) dd_Mo_overtaken_101 (Nat.le_of_ble_eq_true rfl) rfl ?_
                    refine jj_iinc 2 (lv' := [(4, .int (nI (k + 1))), (3, .int (1)), (5, .int (0)), (0, .ref (g 60)), (1, .int (c)), (2, .int (x))]) dd_Mo_overtaken_102 rfl (nI_1 k) (Nat.le_of_ble_eq_true rfl) rfl ?_
                    refine jj_goto (tgt := 5) dd_Mo_overtaken_105 (by decide) ?_
                    refine jj_sub [0, 1, 3, 4, 5] rfl ?_
                    exact ih _ _ (by omega) (by first | (simpa [ov_go, -Int32.not_lt, -Int32.not_le, h11, h22, h33, h55, h66, h82, h93] using hq) | (exfalso; simp_all; done)) (by first | exact hz | exact Or.inl rfl | exact Or.inr rfl)
          · skip
            refine jj_aload_n 2 dd_Mo_overtaken_36 rfl ?_
            refine jj_rS (n := 73) hS dd_Mo_overtaken_37 ff_Mo_35 rfl (fun _ => rfl) rfl ?_
            refine jj_iload 0 dd_Mo_overtaken_40 rfl ?_
            refine jj_aS hS dd_Mo_overtaken_42 rfl (vp_in_nI (n := k) (by omega) (by decide)) (k) (nI_clamp (n := k) (by omega)) ?_
            refine jj_iload_n 4 dd_Mo_overtaken_43 rfl ?_
            refine jj_icmp_le (tgt := 51) dd_Mo_overtaken_44 (by decide) (fun h44 => ?_) (fun h44 => ?_)
            · skip
              refine jj_iconst (v := 0) dd_Mo_overtaken_51 rfl ?_
              refine jj_istore (lv' := [(5, .int (0)), (4, .int (nI (k))), (3, .int (z)), (0, .ref (g 60)), (1, .int (c)), (2, .int (x))]) dd_Mo_overtaken_52 (Nat.le_of_ble_eq_true rfl) rfl ?_
              refine jj_iload_n 2 dd_Mo_overtaken_54 rfl ?_
              refine jj_if_ne (tgt := 96) dd_Mo_overtaken_55 (by decide) (fun h55 => ?_) (fun h55 => ?_)
              · skip
                refine jj_iconst (v := 1) dd_Mo_overtaken_96 rfl ?_
                refine jj_goto (tgt := 101) dd_Mo_overtaken_97 (by decide) ?_
                refine jj_istore_n (lv' := [(3, .int (1)), (5, .int (0)), (4, .int (nI (k))), (0, .ref (g 60)), (1, .int (c)), (2, .int (x))]) dd_Mo_overtaken_101 (Nat.le_of_ble_eq_true rfl) rfl ?_
                refine jj_iinc 2 (lv' := [(4, .int (nI (k + 1))), (3, .int (1)), (5, .int (0)), (0, .ref (g 60)), (1, .int (c)), (2, .int (x))]) dd_Mo_overtaken_102 rfl (nI_1 k) (Nat.le_of_ble_eq_true rfl) rfl ?_
                refine jj_goto (tgt := 5) dd_Mo_overtaken_105 (by decide) ?_
                refine jj_sub [0, 1, 3, 4, 5] rfl ?_
                exact ih _ _ (by omega) (by first | (simpa [ov_go, -Int32.not_lt, -Int32.not_le, h11, h22, h33, h44, h55] using hq) | (exfalso; simp_all; done)) (by first | exact hz | exact Or.inl rfl | exact Or.inr rfl)
              · skip
                refine jj_aload_n 3 dd_Mo_overtaken_58 rfl ?_
                refine jj_rS (n := 72) hS dd_Mo_overtaken_59 ff_Mo_32 rfl (fun _ => rfl) rfl ?_
                refine jj_iload 1 dd_Mo_overtaken_62 rfl ?_
                refine jj_aS hS dd_Mo_overtaken_64 rfl (vp_in_nI (n := k) (by omega) (by decide)) (k) (nI_clamp (n := k) (by omega)) ?_
                refine jj_iload_n 4 dd_Mo_overtaken_65 rfl ?_
                refine jj_icmp_ne (tgt := 100) dd_Mo_overtaken_66 (by decide) (fun h66 => ?_) (fun h66 => ?_)
                · skip
                  refine jj_iconst (v := 0) dd_Mo_overtaken_100 rfl ?_
                  refine jj_istore_n (lv' := [(3, .int (0)), (5, .int (0)), (4, .int (nI (k))), (0, .ref (g 60)), (1, .int (c)), (2, .int (x))]) dd_Mo_overtaken_101 (Nat.le_of_ble_eq_true rfl) rfl ?_
                  refine jj_iinc 2 (lv' := [(4, .int (nI (k + 1))), (3, .int (0)), (5, .int (0)), (0, .ref (g 60)), (1, .int (c)), (2, .int (x))]) dd_Mo_overtaken_102 rfl (nI_1 k) (Nat.le_of_ble_eq_true rfl) rfl ?_
                  refine jj_goto (tgt := 5) dd_Mo_overtaken_105 (by decide) ?_
                  refine jj_sub [0, 1, 3, 4, 5] rfl ?_
                  exact ih _ _ (by omega) (by first | (simpa [ov_go, -Int32.not_lt, -Int32.not_le, h11, h22, h33, h44, h55, h66] using hq) | (exfalso; simp_all; done)) (by first | exact hz | exact Or.inl rfl | exact Or.inr rfl)
                · skip
                  refine jj_iload 0 dd_Mo_overtaken_69 rfl ?_
                  refine jj_if_ne (tgt := 96) dd_Mo_overtaken_71 (by decide) (fun h => absurd h (by decide)) (fun _ => ?_)
                  refine jj_aload_n 3 dd_Mo_overtaken_74 rfl ?_
                  refine jj_rS (n := 75) hS dd_Mo_overtaken_75 ff_Mo_41 rfl (fun _ => rfl) rfl ?_
                  refine jj_iload 1 dd_Mo_overtaken_78 rfl ?_
                  refine jj_aS hS dd_Mo_overtaken_80 rfl (vp_in_nI (n := k) (by omega) (by decide)) (k) (nI_clamp (n := k) (by omega)) ?_
                  refine jj_iconst (v := 3) dd_Mo_overtaken_81 rfl ?_
                  refine jj_icmp_ne (tgt := 100) dd_Mo_overtaken_82 (by decide) (fun h82 => ?_) (fun h82 => ?_)
                  · skip
                    refine jj_iconst (v := 0) dd_Mo_overtaken_100 rfl ?_
                    refine jj_istore_n (lv' := [(3, .int (0)), (5, .int (0)), (4, .int (nI (k))), (0, .ref (g 60)), (1, .int (c)), (2, .int (x))]) dd_Mo_overtaken_101 (Nat.le_of_ble_eq_true rfl) rfl ?_
                    refine jj_iinc 2 (lv' := [(4, .int (nI (k + 1))), (3, .int (0)), (5, .int (0)), (0, .ref (g 60)), (1, .int (c)), (2, .int (x))]) dd_Mo_overtaken_102 rfl (nI_1 k) (Nat.le_of_ble_eq_true rfl) rfl ?_
                    refine jj_goto (tgt := 5) dd_Mo_overtaken_105 (by decide) ?_
                    refine jj_sub [0, 1, 3, 4, 5] rfl ?_
                    exact ih _ _ (by omega) (by first | (simpa [ov_go, -Int32.not_lt, -Int32.not_le, h11, h22, h33, h44, h55, h66, h82] using hq) | (exfalso; simp_all; done)) (by first | exact hz | exact Or.inl rfl | exact Or.inr rfl)
                  · skip
                    refine jj_aload_n 3 dd_Mo_overtaken_85 rfl ?_
                    refine jj_rS (n := 74) hS dd_Mo_overtaken_86 ff_Mo_38 rfl (fun _ => rfl) rfl ?_
                    refine jj_iload 1 dd_Mo_overtaken_89 rfl ?_
                    refine jj_aS hS dd_Mo_overtaken_91 rfl (vp_in_nI (n := k) (by omega) (by decide)) (k) (nI_clamp (n := k) (by omega)) ?_
                    refine jj_iload_n 5 dd_Mo_overtaken_92 rfl ?_
                    refine jj_icmp_ne (tgt := 100) dd_Mo_overtaken_93 (by decide) (fun h93 => ?_) (fun h93 => ?_)
                    · skip
                      refine jj_iconst (v := 0) dd_Mo_overtaken_100 rfl ?_
                      refine jj_istore_n (lv' := [(3, .int (0)), (5, .int (0)), (4, .int (nI (k))), (0, .ref (g 60)), (1, .int (c)), (2, .int (x))]) dd_Mo_overtaken_101 (Nat.le_of_ble_eq_true rfl) rfl ?_
                      refine jj_iinc 2 (lv' := [(4, .int (nI (k + 1))), (3, .int (0)), (5, .int (0)), (0, .ref (g 60)), (1, .int (c)), (2, .int (x))]) dd_Mo_overtaken_102 rfl (nI_1 k) (Nat.le_of_ble_eq_true rfl) rfl ?_
                      refine jj_goto (tgt := 5) dd_Mo_overtaken_105 (by decide) ?_
                      refine jj_sub [0, 1, 3, 4, 5] rfl ?_
                      exact ih _ _ (by omega) (by first | (simpa [ov_go, -Int32.not_lt, -Int32.not_le, h11, h22, h33, h44, h55, h66, h82, h93] using hq) | (exfalso; simp_all; done)) (by first | exact hz | exact Or.inl rfl | exact Or.inr rfl)
                    · skip
                      refine jj_iconst (v := 1) dd_Mo_overtaken_96 rfl ?_
                      refine jj_goto (tgt := 101) dd_Mo_overtaken_97 (by decide) ?_
                      refine jj_istore_n (lv' := [(3, .int (1)), (5, .int (0)), (4, .int (nI (k))), (0, .ref (g 60)), (1, .int (c)), (2, .int (x))]) dd_Mo_overtaken_101 (Nat.le_of_ble_eq_true rfl) rfl ?_
                      refine jj_iinc 2 (lv' := [(4, .int (nI (k + 1))), (3, .int (1)), (5, .int (0)), (0, .ref (g 60)), (1, .int (c)), (2, .int (x))]) dd_Mo_overtaken_102 rfl (nI_1 k) (Nat.le_of_ble_eq_true rfl) rfl ?_
                      refine jj_goto (tgt := 5) dd_Mo_overtaken_105 (by decide) ?_
                      refine jj_sub [0, 1, 3, 4, 5] rfl ?_
                      exact ih _ _ (by omega) (by first | (simpa [ov_go, -Int32.not_lt, -Int32.not_le, h11, h22, h33, h44, h55, h66, h82, h93] using hq) | (exfalso; simp_all; done)) (by first | exact hz | exact Or.inl rfl | exact Or.inr rfl)
            · skip
              refine jj_iconst (v := 1) dd_Mo_overtaken_47 rfl ?_
              refine jj_goto (tgt := 52) dd_Mo_overtaken_48 (by decide) ?_
              refine jj_istore (lv' := [(5, .int (1)), (4, .int (nI (k))), (3, .int (z)), (0, .ref (g 60)), (1, .int (c)), (2, .int (x))]) dd_Mo_overtaken_52 (Nat.le_of_ble_eq_true rfl) rfl ?_
              refine jj_iload_n 2 dd_Mo_overtaken_54 rfl ?_
              refine jj_if_ne (tgt := 96) dd_Mo_overtaken_55 (by decide) (fun h55 => ?_) (fun h55 => ?_)
              · skip
                refine jj_iconst (v := 1) dd_Mo_overtaken_96 rfl ?_
                refine jj_goto (tgt := 101) dd_Mo_overtaken_97 (by decide) ?_
                refine jj_istore_n (lv' := [(3, .int (1)), (5, .int (1)), (4, .int (nI (k))), (0, .ref (g 60)), (1, .int (c)), (2, .int (x))]) dd_Mo_overtaken_101 (Nat.le_of_ble_eq_true rfl) rfl ?_
                refine jj_iinc 2 (lv' := [(4, .int (nI (k + 1))), (3, .int (1)), (5, .int (1)), (0, .ref (g 60)), (1, .int (c)), (2, .int (x))]) dd_Mo_overtaken_102 rfl (nI_1 k) (Nat.le_of_ble_eq_true rfl) rfl ?_
                refine jj_goto (tgt := 5) dd_Mo_overtaken_105 (by decide) ?_
                refine jj_sub [0, 1, 3, 4, 5] rfl ?_
                exact ih _ _ (by omega) (by first | (simpa [ov_go, -Int32.not_lt, -Int32.not_le, h11, h22, h33, h44, h55] using hq) | (exfalso; simp_all; done)) (by first | exact hz | exact Or.inl rfl | exact Or.inr rfl)
              · skip
                refine jj_aload_n 3 dd_Mo_overtaken_58 rfl ?_
                refine jj_rS (n := 72) hS dd_Mo_overtaken_59 ff_Mo_32 rfl (fun _ => rfl) rfl ?_
                refine jj_iload 1 dd_Mo_overtaken_62 rfl ?_
                refine jj_aS hS dd_Mo_overtaken_64 rfl (vp_in_nI (n := k) (by omega) (by decide)) (k) (nI_clamp (n := k) (by omega)) ?_
                refine jj_iload_n 4 dd_Mo_overtaken_65 rfl ?_
                refine jj_icmp_ne (tgt := 100) dd_Mo_overtaken_66 (by decide) (fun h66 => ?_) (fun h66 => ?_)
                · skip
                  refine jj_iconst (v := 0) dd_Mo_overtaken_100 rfl ?_
                  refine jj_istore_n (lv' := [(3, .int (0)), (5, .int (1)), (4, .int (nI (k))), (0, .ref (g 60)), (1, .int (c)), (2, .int (x))]) dd_Mo_overtaken_101 (Nat.le_of_ble_eq_true rfl) rfl ?_
                  refine jj_iinc 2 (lv' := [(4, .int (nI (k + 1))), (3, .int (0)), (5, .int (1)), (0, .ref (g 60)), (1, .int (c)), (2, .int (x))]) dd_Mo_overtaken_102 rfl (nI_1 k) (Nat.le_of_ble_eq_true rfl) rfl ?_
                  refine jj_goto (tgt := 5) dd_Mo_overtaken_105 (by decide) ?_
                  refine jj_sub [0, 1, 3, 4, 5] rfl ?_
                  exact ih _ _ (by omega) (by first | (simpa [ov_go, -Int32.not_lt, -Int32.not_le, h11, h22, h33, h44, h55, h66] using hq) | (exfalso; simp_all; done)) (by first | exact hz | exact Or.inl rfl | exact Or.inr rfl)
                · skip
                  refine jj_iload 0 dd_Mo_overtaken_69 rfl ?_
                  refine jj_if_ne (tgt := 96) dd_Mo_overtaken_71 (by decide) (fun _ => ?_) (fun h => absurd h (by decide))
                  refine jj_iconst (v := 1) dd_Mo_overtaken_96 rfl ?_
                  refine jj_goto (tgt := 101) dd_Mo_overtaken_97 (by decide) ?_
                  refine jj_istore_n (lv' := [(3, .int (1)), (5, .int (1)), (4, .int (nI (k))), (0, .ref (g 60)), (1, .int (c)), (2, .int (x))]) dd_Mo_overtaken_101 (Nat.le_of_ble_eq_true rfl) rfl ?_
                  refine jj_iinc 2 (lv' := [(4, .int (nI (k + 1))), (3, .int (1)), (5, .int (1)), (0, .ref (g 60)), (1, .int (c)), (2, .int (x))]) dd_Mo_overtaken_102 rfl (nI_1 k) (Nat.le_of_ble_eq_true rfl) rfl ?_
                  refine jj_goto (tgt := 5) dd_Mo_overtaken_105 (by decide) ?_
                  refine jj_sub [0, 1, 3, 4, 5] rfl ?_
                  exact ih _ _ (by omega) (by first | (simpa [ov_go, -Int32.not_lt, -Int32.not_le, h11, h22, h33, h44, h55, h66] using hq) | (exfalso; simp_all; done)) (by first | exact hz | exact Or.inl rfl | exact Or.inr rfl)
  refine jj_iconst (v := 0) dd_Mo_overtaken_0 rfl ?_
  refine jj_istore_n (lv' := [(3, .int (0)), (0, .ref (g 60)), (1, .int (c)), (2, .int (x))]) dd_Mo_overtaken_1 (Nat.le_of_ble_eq_true rfl) rfl ?_
  refine jj_iconst (v := 0) dd_Mo_overtaken_2 rfl ?_
  refine jj_istore (lv' := [(4, .int (0)), (3, .int (0)), (0, .ref (g 60)), (1, .int (c)), (2, .int (x))]) dd_Mo_overtaken_3 (Nat.le_of_ble_eq_true rfl) rfl ?_
  exact loop (rec_ S.1) 0 _ (by omega) hQ (Or.inl rfl)
set_option maxRecDepth 20000 in
theorem cs_Mo_latest {l : Launch} {g : Nat → Nat} {S : ss_} {Q : Option Value → ss_ → Prop} {c x : Int32} (hr : S.1 60 11 = nI (rec_ S.1)) (hr2 : rec_ S.1 ≤ 1540) (hQ : Q (some (.int (la_ S.1 c x))) S) : cs_ l yy_Mo_latest bb_Mo_latest 6 (some .int) 0 0 0 g [.ref (g 60), .int c, .int x] S Q := by
  intro M hS
  refine ct_of (by decide) (Nat.le_of_ble_eq_true rfl) (fun G A => ?_)
  have loop : ∀ (n k : Nat) (z : Int32), k + n = rec_ S.1 → Q (some (.int (la_go S.1 c x n k z))) S → ix_ z 1540 → jj_ l yy_Mo_latest bb_Mo_latest 6 (some .int) G (mm_R 0 0 0) A (mm_ret (qs_ g Q)) 0 0 5 [(4, .int (nI (k))), (3, .int (z)), (0, .ref (g 60)), (1, .int (c)), (2, .int (x))] [] M := by
    intro n
    induction n with
    | zero =>
      intro k z hk hq hz
      have hk : k = rec_ S.1 := by omega
      subst hk
      refine jj_iload 0 dd_Mo_latest_5 rfl ?_
      refine jj_aload_n 2 dd_Mo_latest_7 rfl ?_
      refine jj_gS hS dd_Mo_latest_8 ff_Mo_99 rfl (fun _ => rfl) ?_
      refine jj_ti (x' := nI (rec_ S.1)) hr ?_
      refine jj_icmp_ge (tgt := 103) dd_Mo_latest_11 (by decide) (fun h11 => ?_) (fun h11 => ?_)
      · skip
        refine jj_iload_n 1 dd_Mo_latest_103 rfl ?_
        refine jj_iret dd_Mo_latest_104 rfl rfl ?_
        exact ⟨_, hS, hq⟩
      · exact absurd (mm_le (fun h => absurd h (mm_nlt (mm_rfl _)))) h11
    | succ n ih =>
      intro k z hk hq hz
      refine jj_iload 0 dd_Mo_latest_5 rfl ?_
      refine jj_aload_n 2 dd_Mo_latest_7 rfl ?_
      refine jj_gS hS dd_Mo_latest_8 ff_Mo_99 rfl (fun _ => rfl) ?_
      refine jj_ti (x' := nI (rec_ S.1)) hr ?_
      refine jj_icmp_ge (tgt := 103) dd_Mo_latest_11 (by decide) (fun h11 => ?_) (fun h11 => ?_)
      · exact absurd h11 (nI_ge (by omega) (by omega))
      · skip
        refine jj_aload_n 2 dd_Mo_latest_14 rfl ?_
        refine jj_rS (n := 72) hS dd_Mo_latest_15 ff_Mo_32 rfl (fun _ => rfl) rfl ?_
        refine jj_iload 0 dd_Mo_latest_18 rfl ?_
        refine jj_aS hS dd_Mo_latest_20 rfl (vp_in_nI (n := k) (by omega) (by decide)) (k) (nI_clamp (n := k) (by omega)) ?_
        refine jj_iload_n 3 dd_Mo_latest_21 rfl ?_
        refine jj_icmp_ne (tgt := 62) dd_Mo_latest_22 (by decide) (fun h22 => ?_) (fun h22 => ?_)
        · skip
          refine jj_iconst (v := 0) dd_Mo_latest_62 rfl ?_
          refine jj_istore (lv' := [(5, .int (0)), (4, .int (nI (k))), (3, .int (z)), (0, .ref (g 60)), (1, .int (c)), (2, .int (x))]) dd_Mo_latest_63 (Nat.le_of_ble_eq_true rfl) rfl ?_
          refine jj_iload 0 dd_Mo_latest_65 rfl ?_
          refine jj_if_eq (tgt := 95) dd_Mo_latest_67 (by decide) (fun _ => ?_) (fun h => absurd h (by decide))
          refine jj_iload_n 2 dd_Mo_latest_95 rfl ?_
          refine jj_istore_n (lv' := [(3, .int (z)), (5, .int (0)), (4, .int (nI (k))), (0, .ref (g 60)), (1, .int (c)), (2, .int (x))]) dd_Mo_latest_96 (Nat.le_of_ble_eq_true rfl) rfl ?_
          refine jj_iinc 2 (lv' := [(4, .int (nI (k + 1))), (3, .int (z)), (5, .int (0)), (0, .ref (g 60)), (1, .int (c)), (2, .int (x))]) dd_Mo_latest_97 rfl (nI_1 k) (Nat.le_of_ble_eq_true rfl) rfl ?_
          refine jj_goto (tgt := 5) dd_Mo_latest_100 (by decide) ?_
          refine jj_sub [0, 1, 3, 4, 5] rfl ?_
          exact ih _ _ (by omega) (by first | (simpa [la_go, -Int32.not_lt, -Int32.not_le, h11, h22] using hq) | (exfalso; simp_all; done)) (by first | exact hz | exact Or.inr (vp_in_nI (n := k) (by omega) (by decide)))
        · skip
          refine jj_aload_n 2 dd_Mo_latest_25 rfl ?_
          refine jj_rS (n := 75) hS dd_Mo_latest_26 ff_Mo_41 rfl (fun _ => rfl) rfl ?_
          refine jj_iload 0 dd_Mo_latest_29 rfl ?_
          refine jj_aS hS dd_Mo_latest_31 rfl (vp_in_nI (n := k) (by omega) (by decide)) (k) (nI_clamp (n := k) (by omega)) ?_
          refine jj_iconst (v := 1) dd_Mo_latest_32 rfl ?_
          refine jj_icmp_eq (tgt := 47) dd_Mo_latest_33 (by decide) (fun h33 => ?_) (fun h33 => ?_)
          · skip
            refine jj_aload_n 2 dd_Mo_latest_47 rfl ?_
            refine jj_rS (n := 73) hS dd_Mo_latest_48 ff_Mo_35 rfl (fun _ => rfl) rfl ?_
            refine jj_iload 0 dd_Mo_latest_51 rfl ?_
            refine jj_aS hS dd_Mo_latest_53 rfl (vp_in_nI (n := k) (by omega) (by decide)) (k) (nI_clamp (n := k) (by omega)) ?_
            refine jj_iload_n 4 dd_Mo_latest_54 rfl ?_
            refine jj_icmp_ge (tgt := 62) dd_Mo_latest_55 (by decide) (fun h55 => ?_) (fun h55 => ?_)
            · skip
              refine jj_iconst (v := 0) dd_Mo_latest_62 rfl ?_
              refine jj_istore (lv' := [(5, .int (0)), (4, .int (nI (k))), (3, .int (z)), (0, .ref (g 60)), (1, .int (c)), (2, .int (x))]) dd_Mo_latest_63 (Nat.le_of_ble_eq_true rfl) rfl ?_
              refine jj_iload 0 dd_Mo_latest_65 rfl ?_
              refine jj_if_eq (tgt := 95) dd_Mo_latest_67 (by decide) (fun _ => ?_) (fun h => absurd h (by decide))
              refine jj_iload_n 2 dd_Mo_latest_95 rfl ?_
              refine jj_istore_n (lv' := [(3, .int (z)), (5, .int (0)), (4, .int (nI (k))), (0, .ref (g 60)), (1, .int (c)), (2, .int (x))]) dd_Mo_latest_96 (Nat.le_of_ble_eq_true rfl) rfl ?_
              refine jj_iinc 2 (lv' := [(4, .int (nI (k + 1))), (3, .int (z)), (5, .int (0)), (0, .ref (g 60)), (1, .int (c)), (2, .int (x))]) dd_Mo_latest_97 rfl (nI_1 k) (Nat.le_of_ble_eq_true rfl) rfl ?_
              refine jj_goto (tgt := 5) dd_Mo_latest_100 (by decide) ?_
              refine jj_sub [0, 1, 3, 4, 5] rfl ?_
              exact ih _ _ (by omega) (by first | (simpa [la_go, -Int32.not_lt, -Int32.not_le, h11, h22, h33, h55] using hq) | (exfalso; simp_all; done)) (by first | exact hz | exact Or.inr (vp_in_nI (n := k) (by omega) (by decide)))
            · skip
              refine jj_iconst (v := 1) dd_Mo_latest_58 rfl ?_
              refine jj_goto (tgt := 63) dd_Mo_latest_59 (by decide) ?_
              refine jj_istore (lv' := [(5, .int (1)), (4, .int (nI (k))), (3, .int (z)), (0, .ref (g 60)), (1, .int (c)), (2, .int (x))]) dd_Mo_latest_63 (Nat.le_of_ble_eq_true rfl) rfl ?_
              refine jj_iload 0 dd_Mo_latest_65 rfl ?_
              refine jj_if_eq (tgt := 95) dd_Mo_latest_67 (by decide) (fun h => absurd h (by decide)) (fun _ => ?_)
              refine jj_iload_n 2 dd_Mo_latest_70 rfl ?_
              refine jj_if_lt (tgt := 90) dd_Mo_latest_71 (by decide) (fun h71 => ?_) (fun h71 => ?_)
              · skip
                refine jj_iload 1 dd_Mo_latest_90 rfl ?_
                refine jj_goto (tgt := 96) dd_Mo_latest_92 (by decide) ?_
                refine jj_istore_n (lv' := [(3, .int (nI (k))), (5, .int (1)), (4, .int (nI (k))), (0, .ref (g 60)), (1, .int (c)), (2, .int (x))]) dd_Mo_latest_96 (Nat.le_of_ble_eq_true rfl) rfl ?_
                refine jj_iinc 2 (lv' := [(4, .int (nI (k + 1))), (3, .int (nI (k))), (5, .int (1)), (0, .ref (g 60)), (1, .int (c)), (2, .int (x))]) dd_Mo_latest_97 rfl (nI_1 k) (Nat.le_of_ble_eq_true rfl) rfl ?_
                refine jj_goto (tgt := 5) dd_Mo_latest_100 (by decide) ?_
                refine jj_sub [0, 1, 3, 4, 5] rfl ?_
                exact ih _ _ (by omega) (by first | (simpa [la_go, -Int32.not_lt, -Int32.not_le, h11, h22, h33, h55, h71] using hq) | (exfalso; simp_all; done)) (by first | exact hz | exact Or.inr (vp_in_nI (n := k) (by omega) (by decide)))
              · skip
                refine jj_aload_n 3 dd_Mo_latest_74 rfl ?_
                refine jj_rS (n := 73) hS dd_Mo_latest_75 ff_Mo_35 rfl (fun _ => rfl) rfl ?_
                refine jj_iload 1 dd_Mo_latest_78 rfl ?_
                refine jj_aS hS dd_Mo_latest_80 rfl (vp_in_nI (n := k) (by omega) (by decide)) (k) (nI_clamp (n := k) (by omega)) ?_
                refine jj_aload_n 3 dd_Mo_latest_81 rfl ?_
                refine jj_rS (n := 73) hS dd_Mo_latest_82 ff_Mo_35 rfl (fun _ => rfl) rfl ?_
                refine jj_iload_n 2 dd_Mo_latest_85 rfl ?_
                refine jj_aS hS dd_Mo_latest_86 rfl (ix_in hz h71) (z.toNatClampNeg) rfl ?_
                refine jj_icmp_le (tgt := 95) dd_Mo_latest_87 (by decide) (fun h87 => ?_) (fun h87 => ?_)
                · skip
                  refine jj_iload_n 2 dd_Mo_latest_95 rfl ?_
                  refine jj_istore_n (lv' := [(3, .int (z)), (5, .int (1)), (4, .int (nI (k))), (0, .ref (g 60)), (1, .int (c)), (2, .int (x))]) dd_Mo_latest_96 (Nat.le_of_ble_eq_true rfl) rfl ?_
                  refine jj_iinc 2 (lv' := [(4, .int (nI (k + 1))), (3, .int (z)), (5, .int (1)), (0, .ref (g 60)), (1, .int (c)), (2, .int (x))]) dd_Mo_latest_97 rfl (nI_1 k) (Nat.le_of_ble_eq_true rfl) rfl ?_
                  refine jj_goto (tgt := 5) dd_Mo_latest_100 (by decide) ?_
                  refine jj_sub [0, 1, 3, 4, 5] rfl ?_
                  exact ih _ _ (by omega) (by first | (simpa [la_go, -Int32.not_lt, -Int32.not_le, h11, h22, h33, h55, h71, h87] using hq) | (exfalso; simp_all; done)) (by first | exact hz | exact Or.inr (vp_in_nI (n := k) (by omega) (by decide)))
                · skip
                  refine jj_iload 1 dd_Mo_latest_90 rfl ?_
                  refine jj_goto (tgt := 96) dd_Mo_latest_92 (by decide) ?_
                  refine jj_istore_n (lv' := [(3, .int (nI (k))), (5, .int (1)), (4, .int (nI (k))), (0, .ref (g 60)), (1, .int (c)), (2, .int (x))]) dd_Mo_latest_96 (Nat.le_of_ble_eq_true rfl) rfl ?_
                  refine jj_iinc 2 (lv' := [(4, .int (nI (k + 1))), (3, .int (nI (k))), (5, .int (1)), (0, .ref (g 60)), (1, .int (c)), (2, .int (x))]) dd_Mo_latest_97 rfl (nI_1 k) (Nat.le_of_ble_eq_true rfl) rfl ?_
                  refine jj_goto (tgt := 5) dd_Mo_latest_100 (by decide) ?_
                  refine jj_sub [0, 1, 3, 4, 5] rfl ?_
                  exact ih _ _ (by omega) (by first | (simpa [la_go, -Int32.not_lt, -Int32.not_le, h11, h22, h33, h55, h71, h87] using hq) | (exfalso; simp_all; done)) (by first | exact hz | exact Or.inr (vp_in_nI (n := k) (by omega) (by decide)))
          · skip
            refine jj_aload_n 2 dd_Mo_latest_36 rfl ?_
            refine jj_rS (n := 75) hS dd_Mo_latest_37 ff_Mo_41 rfl (fun _ => rfl) rfl ?_
            refine jj_iload 0 dd_Mo_latest_40 rfl ?_
            refine jj_aS hS dd_Mo_latest_42 rfl (vp_in_nI (n := k) (by omega) (by decide)) (k) (nI_clamp (n := k) (by omega)) ?_
            refine jj_iconst (v := 2) dd_Mo_latest_43 rfl ?_
            refine jj_icmp_ne (tgt := 62) dd_Mo_latest_44 (by decide) (fun h44 => ?_) (fun h44 => ?_)
            · skip
              refine jj_iconst (v := 0) dd_Mo_latest_62 rfl ?_
              refine jj_istore (lv' := [(5, .int (0)), (4, .int (nI (k))), (3, .int (z)), (0, .ref (g 60)), (1, .int (c)), (2, .int (x))]) dd_Mo_latest_63 (Nat.le_of_ble_eq_true rfl) rfl ?_
              refine jj_iload 0 dd_Mo_latest_65 rfl ?_
              refine jj_if_eq (tgt := 95) dd_Mo_latest_67 (by decide) (fun _ => ?_) (fun h => absurd h (by decide))
              refine jj_iload_n 2 dd_Mo_latest_95 rfl ?_
              refine jj_istore_n (lv' := [(3, .int (z)), (5, .int (0)), (4, .int (nI (k))), (0, .ref (g 60)), (1, .int (c)), (2, .int (x))]) dd_Mo_latest_96 (Nat.le_of_ble_eq_true rfl) rfl ?_
              refine jj_iinc 2 (lv' := [(4, .int (nI (k + 1))), (3, .int (z)), (5, .int (0)), (0, .ref (g 60)), (1, .int (c)), (2, .int (x))]) dd_Mo_latest_97 rfl (nI_1 k) (Nat.le_of_ble_eq_true rfl) rfl ?_
              refine jj_goto (tgt := 5) dd_Mo_latest_100 (by decide) ?_
              refine jj_sub [0, 1, 3, 4, 5] rfl ?_
              exact ih _ _ (by omega) (by first | (simpa [la_go, -Int32.not_lt, -Int32.not_le, h11, h22, h33, h44] using hq) | (exfalso; simp_all; done)) (by first | exact hz | exact Or.inr (vp_in_nI (n := k) (by omega) (by decide)))
            · skip
              refine jj_aload_n 2 dd_Mo_latest_47 rfl ?_
              refine jj_rS (n := 73) hS dd_Mo_latest_48 ff_Mo_35 rfl (fun _ => rfl) rfl ?_
              refine jj_iload 0 dd_Mo_latest_51 rfl ?_
              refine jj_aS hS dd_Mo_latest_53 rfl (vp_in_nI (n := k) (by omega) (by decide)) (k) (nI_clamp (n := k) (by omega)) ?_
              refine jj_iload_n 4 dd_Mo_latest_54 rfl ?_
              refine jj_icmp_ge (tgt := 62) dd_Mo_latest_55 (by decide) (fun h55 => ?_) (fun h55 => ?_)
              · skip
                refine jj_iconst (v := 0) dd_Mo_latest_62 rfl ?_
                refine jj_istore (lv' := [(5, .int (0)), (4, .int (nI (k))), (3, .int (z)), (0, .ref (g 60)), (1, .int (c)), (2, .int (x))]) dd_Mo_latest_63 (Nat.le_of_ble_eq_true rfl) rfl ?_
                refine jj_iload 0 dd_Mo_latest_65 rfl ?_
                refine jj_if_eq (tgt := 95) dd_Mo_latest_67 (by decide) (fun _ => ?_) (fun h => absurd h (by decide))
                refine jj_iload_n 2 dd_Mo_latest_95 rfl ?_
                refine jj_istore_n (lv' := [(3, .int (z)), (5, .int (0)), (4, .int (nI (k))), (0, .ref (g 60)), (1, .int (c)), (2, .int (x))]) dd_Mo_latest_96 (Nat.le_of_ble_eq_true rfl) rfl ?_
                refine jj_iinc 2 (lv' := [(4, .int (nI (k + 1))), (3, .int (z)), (5, .int (0)), (0, .ref (g 60)), (1, .int (c)), (2, .int (x))]) dd_Mo_latest_97 rfl (nI_1 k) (Nat.le_of_ble_eq_true rfl) rfl ?_
                refine jj_goto (tgt := 5) dd_Mo_latest_100 (by decide) ?_
                refine jj_sub [0, 1, 3, 4, 5] rfl ?_
                exact ih _ _ (by omega) (by first | (simpa [la_go, -Int32.not_lt, -Int32.not_le, h11, h22, h33, h44, h55] using hq) | (exfalso; simp_all; done)) (by first | exact hz | exact Or.inr (vp_in_nI (n := k) (by omega) (by decide)))
              · skip
                refine jj_iconst (v := 1) dd_Mo_latest_58 rfl ?_
                refine jj_goto (tgt := 63) dd_Mo_latest_59 (by decide) ?_
                refine jj_istore (lv' := [(5, .int (1)), (4, .int (nI (k))), (3, .int (z)), (0, .ref (g 60)), (1, .int (c)), (2, .int (x))]) dd_Mo_latest_63 (Nat.le_of_ble_eq_true rfl) rfl ?_
                refine jj_iload 0 dd_Mo_latest_65 rfl ?_
                refine jj_if_eq (tgt := 95) dd_Mo_latest_67 (by decide) (fun h => absurd h (by decide)) (fun _ => ?_)
                refine jj_iload_n 2 dd_Mo_latest_70 rfl ?_
                refine jj_if_lt (tgt := 90) dd_Mo_latest_71 (by decide) (fun h71 => ?_) (fun h71 => ?_)
                · skip
                  refine jj_iload 1 dd_Mo_latest_90 rfl ?_
                  refine jj_goto (tgt := 96) dd_Mo_latest_92 (by decide) ?_
                  refine jj_istore_n (lv' := [(3, .int (nI (k))), (5, .int (1)), (4, .int (nI (k))), (0, .ref (g 60)), (1, .int (c)), (2, .int (x))]) dd_Mo_latest_96 (Nat.le_of_ble_eq_true rfl) rfl ?_
                  refine jj_iinc 2 (lv' := [(4, .int (nI (k + 1))), (3, .int (nI (k))), (5, .int (1)), (0, .ref (g 60)), (1, .int (c)), (2, .int (x))]) dd_Mo_latest_97 rfl (nI_1 k) (Nat.le_of_ble_eq_true rfl) rfl ?_
                  refine jj_goto (tgt := 5) dd_Mo_latest_100 (by decide) ?_
                  refine jj_sub [0, 1, 3, 4, 5] rfl ?_
                  exact ih _ _ (by omega) (by first | (simpa [la_go, -Int32.not_lt, -Int32.not_le, h11, h22, h33, h44, h55, h71] using hq) | (exfalso; simp_all; done)) (by first | exact hz | exact Or.inr (vp_in_nI (n := k) (by omega) (by decide)))
                · skip
                  refine jj_aload_n 3 dd_Mo_latest_74 rfl ?_
                  refine jj_rS (n := 73) hS dd_Mo_latest_75 ff_Mo_35 rfl (fun _ => rfl) rfl ?_
                  refine jj_iload 1 dd_Mo_latest_78 rfl ?_
                  refine jj_aS hS dd_Mo_latest_80 rfl (vp_in_nI (n := k) (by omega) (by decide)) (k) (nI_clamp (n := k) (by omega)) ?_
                  refine jj_aload_n 3 dd_Mo_latest_81 rfl ?_
                  refine jj_rS (n := 73) hS dd_Mo_latest_82 ff_Mo_35 rfl (fun _ => rfl) rfl ?_
                  refine jj_iload_n 2 dd_Mo_latest_85 rfl ?_
                  refine jj_aS hS dd_Mo_latest_86 rfl (ix_in hz h71) (z.toNatClampNeg) rfl ?_
                  refine jj_icmp_le (tgt := 95) dd_Mo_latest_87 (by decide) (fun h87 => ?_) (fun h87 => ?_)
                  · skip
                    refine jj_iload_n 2 dd_Mo_latest_95 rfl ?_
                    refine jj_istore_n (lv' := [(3, .int (z)), (5, .int (1)), (4, .int (nI (k))), (0, .ref (g 60)), (1, .int (c)), (2, .int (x))]) dd_Mo_latest_96 (Nat.le_of_ble_eq_true rfl) rfl ?_
                    refine jj_iinc 2 (lv' := [(4, .int (nI (k + 1))), (3, .int (z)), (5, .int (1)), (0, .ref (g 60)), (1, .int (c)), (2, .int (x))]) dd_Mo_latest_97 rfl (nI_1 k) (Nat.le_of_ble_eq_true rfl) rfl ?_
                    refine jj_goto (tgt := 5) dd_Mo_latest_100 (by decide) ?_
                    refine jj_sub [0, 1, 3, 4, 5] rfl ?_
                    exact ih _ _ (by omega) (by first | (simpa [la_go, -Int32.not_lt, -Int32.not_le, h11, h22, h33, h44, h55, h71, h87] using hq) | (exfalso; simp_all; done)) (by first | exact hz | exact Or.inr (vp_in_nI (n := k) (by omega) (by decide)))
                  · skip
                    refine jj_iload 1 dd_Mo_latest_90 rfl ?_
                    refine jj_goto (tgt := 96) dd_Mo_latest_92 (by decide) ?_
                    refine jj_istore_n (lv' := [(3, .int (nI (k))), (5, .int (1)), (4, .int (nI (k))), (0, .ref (g 60)), (1, .int (c)), (2, .int (x))]) dd_Mo_latest_96 (Nat.le_of_ble_eq_true rfl) rfl ?_
                    refine jj_iinc 2 (lv' := [(4, .int (nI (k + 1))), (3, .int (nI (k))), (5, .int (1)), (0, .ref (g 60)), (1, .int (c)), (2, .int (x))]) dd_Mo_latest_97 rfl (nI_1 k) (Nat.le_of_ble_eq_true rfl) rfl ?_
                    refine jj_goto (tgt := 5) dd_Mo_latest_100 (by decide) ?_
                    refine jj_sub [0, 1, 3, 4, 5] rfl ?_
                    exact ih _ _ (by omega) (by first | (simpa [la_go, -Int32.not_lt, -Int32.not_le, h11, h22, h33, h44, h55, h71, h87] using hq) | (exfalso; simp_all; done)) (by first | exact hz | exact Or.inr (vp_in_nI (n := k) (by omega) (by decide)))
  refine jj_iconst (v := (-1)) dd_Mo_latest_0 rfl ?_
  refine jj_istore_n (lv' := [(3, .int ((-1))), (0, .ref (g 60)), (1, .int (c)), (2, .int (x))]) dd_Mo_latest_1 (Nat.le_of_ble_eq_true rfl) rfl ?_
  refine jj_iconst (v := 0) dd_Mo_latest_2 rfl ?_
  refine jj_istore (lv' := [(4, .int (0)), (3, .int ((-1))), (0, .ref (g 60)), (1, .int (c)), (2, .int (x))]) dd_Mo_latest_3 (Nat.le_of_ble_eq_true rfl) rfl ?_
  exact loop (rec_ S.1) 0 _ (by omega) hQ (Or.inl (by decide))
