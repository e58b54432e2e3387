theorem uf_at (F : Nat → Nat → Int32) (n j : Nat) (x : Int32) (n' j' : Nat) : uf_ F n j x n' j' = if n' = n ∧ j' = j then x else F n' j' := rfl
theorem uf_same {F : Nat → Nat → Int32} {n j : Nat} {x : Int32} (h : F n j = x) : uf_ F n j x = F := by
  funext a b
  rw [uf_at]
  by_cases e : a = n ∧ b = j
  · rw [if_pos e, ← h, e.1, e.2]
  · rw [if_neg e]
theorem cs_use {l : Launch} {z : MethodName} {zc : ByteArray} {znL : Nat} {zret : Option FieldType} {d mc ms : Nat} {g : Nat → Nat} {vs : List Value} {S : ss_} {M : mm_M} {P : Option Value → mm_M → Prop} (h : cs_ l z zc znL zret d mc ms g vs S (fun v S' => ∀ M', rp_ g M' S' → P v M')) (hS : rp_ g M S) : ct_ l z zc znL zret d mc ms vs M P :=
  ct_mono (fun v M' hq => by
    obtain ⟨S', h1, h2⟩ := hq
    exact h2 M' h1) (h M hS)
set_option maxRecDepth 20000 in
theorem ct_Mo_in {l : Launch} {M : mm_M} {Q : Option Value → mm_M → Prop} {x lo hi : Int32} (hQ0 : x < lo ∨ hi < x → Q (some (.int 0)) M) (hQ : ¬ x < lo → ¬ hi < x → Q (some (.int 1)) M) : ct_ l yy_Mo_in bb_Mo_in 3 (some .boolean) 0 0 0 [.int x, .int lo, .int hi] M Q := by
  refine ct_of (by decide) (Nat.le_of_ble_eq_true rfl) (fun G A => ?_)
  refine jj_iload_n 0 dd_Mo_in_0 rfl ?_
  refine jj_iload_n 1 dd_Mo_in_1 rfl ?_
  refine jj_icmp_lt (tgt := 14) dd_Mo_in_2 (by decide) (fun h2 => ?_) (fun h2 => ?_)
  · skip
    refine jj_iconst (v := 0) dd_Mo_in_14 rfl ?_
    refine jj_iret dd_Mo_in_15 rfl rfl ?_
    exact hQ0 (Or.inl h2)
  · skip
    refine jj_iload_n 0 dd_Mo_in_5 rfl ?_
    refine jj_iload_n 2 dd_Mo_in_6 rfl ?_
    refine jj_icmp_gt (tgt := 14) dd_Mo_in_7 (by decide) (fun h7 => ?_) (fun h7 => ?_)
    · skip
      refine jj_iconst (v := 0) dd_Mo_in_14 rfl ?_
      refine jj_iret dd_Mo_in_15 rfl rfl ?_
      exact hQ0 (Or.inr h7)
    · skip
      refine jj_iconst (v := 1) dd_Mo_in_10 rfl ?_
      refine jj_goto (tgt := 15) dd_Mo_in_11 (by decide) ?_
      refine jj_iret dd_Mo_in_15 rfl rfl ?_
      exact hQ h2 h7
set_option maxRecDepth 20000 in
theorem ct_Mo_isClient {l : Launch} {M : mm_M} {Q : Option Value → mm_M → Prop} {a : Nat} {x : Int32} (hQ0 : x < 0 ∨ 3 < x → Q (some (.int 0)) M) (hQ : ¬ x < 0 → ¬ 3 < x → Q (some (.int 1)) M) : ct_ l yy_Mo_isClient bb_Mo_isClient 2 (some .boolean) 1 0 0 [.ref a, .int x] M Q := by
  refine ct_of (by decide) (Nat.le_of_ble_eq_true rfl) (fun G A => ?_)
  refine jj_iload_n 1 dd_Mo_isClient_0 rfl ?_
  refine jj_iconst (v := 0) dd_Mo_isClient_1 rfl ?_
  refine jj_iconst (v := 3) dd_Mo_isClient_2 rfl ?_
  refine jj_callS [_, _, _] [] 0 0 dd_Mo_isClient_3 cs_Mo_127 ci_Mo_127 rfl (Nat.le_of_ble_eq_true rfl) ⟨(Nat.le_of_ble_eq_true rfl), (Nat.le_of_ble_eq_true rfl)⟩ ⟨(Nat.le_of_ble_eq_true rfl), (Nat.le_of_ble_eq_true rfl)⟩ rfl (ct_Mo_in (fun hb => ?_) (fun hb hb2 => ?_))
  · skip
    refine jj_iret dd_Mo_isClient_6 rfl rfl ?_
    exact hQ0 hb
  · skip
    refine jj_iret dd_Mo_isClient_6 rfl rfl ?_
    exact hQ hb hb2
set_option maxRecDepth 20000 in
theorem ct_Mo_isCell {l : Launch} {M : mm_M} {Q : Option Value → mm_M → Prop} {x : Int32} (hQ0 : x < 0 ∨ 11 < x → Q (some (.int 0)) M) (hQ : ¬ x < 0 → ¬ 11 < x → Q (some (.int 1)) M) : ct_ l yy_Mo_isCell bb_Mo_isCell 1 (some .boolean) 1 0 0 [.int x] M Q := by
  refine ct_of (by decide) (Nat.le_of_ble_eq_true rfl) (fun G A => ?_)
  refine jj_iload_n 0 dd_Mo_isCell_0 rfl ?_
  refine jj_iconst (v := 0) dd_Mo_isCell_1 rfl ?_
  refine jj_bipush (v := 11) dd_Mo_isCell_2 rfl ?_
  refine jj_callS [_, _, _] [] 0 0 dd_Mo_isCell_4 cs_Mo_127 ci_Mo_127 rfl (Nat.le_of_ble_eq_true rfl) ⟨(Nat.le_of_ble_eq_true rfl), (Nat.le_of_ble_eq_true rfl)⟩ ⟨(Nat.le_of_ble_eq_true rfl), (Nat.le_of_ble_eq_true rfl)⟩ rfl (ct_Mo_in (fun hb => ?_) (fun hb hb2 => ?_))
  · skip
    refine jj_iret dd_Mo_isCell_7 rfl rfl ?_
    exact hQ0 hb
  · skip
    refine jj_iret dd_Mo_isCell_7 rfl rfl ?_
    exact hQ hb hb2
set_option maxRecDepth 20000 in
theorem cs_Mo_thrown {l : Launch} {g : Nat → Nat} {S : ss_} {Q : Option Value → ss_ → Prop}  (hQ : Q (some (.int (S.1 60 1))) S) : cs_ l yy_Mo_thrown bb_Mo_thrown 1 (some .int) 0 0 0 g [.ref (g 60)] S Q := by
  intro M hS
  refine ct_of (by decide) (Nat.le_of_ble_eq_true rfl) (fun G A => ?_)
  refine jj_aload_n 0 dd_Mo_thrown_0 rfl ?_
  refine jj_gS hS dd_Mo_thrown_1 ff_Mo_93 rfl (fun _ => rfl) ?_
  refine jj_iret dd_Mo_thrown_4 rfl rfl ?_
  exact ⟨_, hS, hQ⟩
set_option maxRecDepth 20000 in
theorem cs_Mo_fails {l : Launch} {g : Nat → Nat} {S : ss_} {Q : Option Value → ss_ → Prop} {x : Int32} (hQ : Q (some (.int 0)) (uf_ S.1 60 1 x, S.2)) : cs_ l yy_Mo_fails bb_Mo_fails 2 (some .int) 0 0 0 g [.ref (g 60), .int x] S Q := by
  intro M hS
  refine ct_of (by decide) (Nat.le_of_ble_eq_true rfl) (fun G A => ?_)
  refine jj_aload_n 0 dd_Mo_fails_0 rfl ?_
  refine jj_iload_n 1 dd_Mo_fails_1 rfl ?_
  refine jj_pS hS dd_Mo_fails_2 ⟨ff_Mo_93, rfl⟩ rfl (fun _ => rfl) ⟨rfl, rfl⟩ (fun M hS => ?_)
  refine jj_iconst (v := 0) dd_Mo_fails_5 rfl ?_
  refine jj_iret dd_Mo_fails_6 rfl rfl ?_
  exact ⟨_, hS, hQ⟩
def ho_F (F : Nat → Nat → Int32) : Nat → Nat → Int32 := uf_ (uf_ F 60 4 (if F 60 3 ≤ F 60 4 then F 60 4 else F 60 3 + 7)) 60 3 (F 60 3 + 1)
set_option maxRecDepth 20000 in
theorem cs_Mo_handOut {l : Launch} {g : Nat → Nat} {S : ss_} {Q : Option Value → ss_ → Prop}  (hQ : Q (some (.int (S.1 60 3 + 1 - 1))) (ho_F S.1, S.2)) : cs_ l yy_Mo_handOut bb_Mo_handOut 1 (some .int) 0 0 0 g [.ref (g 60)] S Q := by
  intro M hS
  refine ct_of (by decide) (Nat.le_of_ble_eq_true rfl) (fun G A => ?_)
  refine jj_aload_n 0 dd_Mo_handOut_0 rfl ?_
  refine jj_aload_n 0 dd_Mo_handOut_1 rfl ?_
  refine jj_gS hS dd_Mo_handOut_2 ff_Mo_7 rfl (fun _ => rfl) ?_
  refine jj_aload_n 0 dd_Mo_handOut_5 rfl ?_
  refine jj_gS hS dd_Mo_handOut_6 ff_Mo_96 rfl (fun _ => rfl) ?_
  refine jj_icmp_le (tgt := 22) dd_Mo_handOut_9 (by decide) (fun h9 => ?_) (fun h9 => ?_)
  · skip
    refine jj_aload_n 0 dd_Mo_handOut_22 rfl ?_
    refine jj_gS hS dd_Mo_handOut_23 ff_Mo_96 rfl (fun _ => rfl) ?_
    refine jj_pS hS dd_Mo_handOut_26 ⟨ff_Mo_96, rfl⟩ rfl (fun _ => rfl) ⟨rfl, rfl⟩ (fun M hS => ?_)
    refine jj_aload_n 0 dd_Mo_handOut_29 rfl ?_
    refine jj_dup dd_Mo_handOut_30 rfl ?_
    refine jj_gS hS dd_Mo_handOut_31 ff_Mo_7 rfl (fun _ => rfl) ?_
    refine jj_iconst (v := 1) dd_Mo_handOut_34 rfl ?_
    refine jj_iadd dd_Mo_handOut_35 ?_
    refine jj_pS hS dd_Mo_handOut_36 ⟨ff_Mo_7, rfl⟩ rfl (fun _ => rfl) ⟨rfl, rfl⟩ (fun M hS => ?_)
    refine jj_aload_n 0 dd_Mo_handOut_39 rfl ?_
    refine jj_gS hS dd_Mo_handOut_40 ff_Mo_7 rfl (fun _ => rfl) ?_
    refine jj_iconst (v := 1) dd_Mo_handOut_43 rfl ?_
    refine jj_isub dd_Mo_handOut_44 ?_
    refine jj_iret dd_Mo_handOut_45 rfl rfl ?_
    refine ⟨_, hS, ?_⟩
    try simp [uf_at, -Int32.not_lt, -Int32.not_le] at h9
    simpa [uf_at, uf_same, ho_F, -Int32.not_lt, -Int32.not_le, h9] using hQ
  · skip
    refine jj_aload_n 0 dd_Mo_handOut_12 rfl ?_
    refine jj_gS hS dd_Mo_handOut_13 ff_Mo_7 rfl (fun _ => rfl) ?_
    refine jj_bipush (v := 7) dd_Mo_handOut_16 rfl ?_
    refine jj_iadd dd_Mo_handOut_18 ?_
    refine jj_goto (tgt := 26) dd_Mo_handOut_19 (by decide) ?_
    refine jj_pS hS dd_Mo_handOut_26 ⟨ff_Mo_96, rfl⟩ rfl (fun _ => rfl) ⟨rfl, rfl⟩ (fun M hS => ?_)
    refine jj_aload_n 0 dd_Mo_handOut_29 rfl ?_
    refine jj_dup dd_Mo_handOut_30 rfl ?_
    refine jj_gS hS dd_Mo_handOut_31 ff_Mo_7 rfl (fun _ => rfl) ?_
    refine jj_iconst (v := 1) dd_Mo_handOut_34 rfl ?_
    refine jj_iadd dd_Mo_handOut_35 ?_
    refine jj_pS hS dd_Mo_handOut_36 ⟨ff_Mo_7, rfl⟩ rfl (fun _ => rfl) ⟨rfl, rfl⟩ (fun M hS => ?_)
    refine jj_aload_n 0 dd_Mo_handOut_39 rfl ?_
    refine jj_gS hS dd_Mo_handOut_40 ff_Mo_7 rfl (fun _ => rfl) ?_
    refine jj_iconst (v := 1) dd_Mo_handOut_43 rfl ?_
    refine jj_isub dd_Mo_handOut_44 ?_
    refine jj_iret dd_Mo_handOut_45 rfl rfl ?_
    refine ⟨_, hS, ?_⟩
    try simp [uf_at, -Int32.not_lt, -Int32.not_le] at h9
    simpa [uf_at, uf_same, ho_F, -Int32.not_lt, -Int32.not_le, h9] using hQ
set_option maxRecDepth 20000 in
theorem cs_Mo_ends {l : Launch} {g : Nat → Nat} {S : ss_} {Q : Option Value → ss_ → Prop} {c : Nat} {x : Int32} (hc : c < 4) (hQ : Q (some (.int x)) (uf_ S.1 83 c 0, S.2)) : cs_ l yy_Mo_ends bb_Mo_ends 3 (some .int) 0 0 0 g [.ref (g 60), .int (nI c), .int x] S Q := by
  intro M hS
  refine ct_of (by decide) (Nat.le_of_ble_eq_true rfl) (fun G A => ?_)
  refine jj_aload_n 0 dd_Mo_ends_0 rfl ?_
  refine jj_rS (n := 83) hS dd_Mo_ends_1 ff_Mo_66 rfl (fun _ => rfl) rfl ?_
  refine jj_iload_n 1 dd_Mo_ends_4 rfl ?_
  refine jj_iconst (v := 0) dd_Mo_ends_5 rfl ?_
  refine jj_asS hS dd_Mo_ends_6 rfl (vp_in_nI (n := c) (by omega) (by decide)) (c) (nI_clamp (n := c) (by omega)) (fun M hS => ?_)
  refine jj_iload_n 2 dd_Mo_ends_7 rfl ?_
  refine jj_iret dd_Mo_ends_8 rfl rfl ?_
  exact ⟨_, hS, hQ⟩
def en_f (F : Nat → Nat → Int32) (t : Nat) : Int32 := if F 81 t ≤ 0 then -1 else F 81 t - 1
def en_l (F : Nat → Nat → Int32) (t : Nat) : Int32 := if F 79 t = 8 then 0 else F 79 t
def en_g (F : Nat → Nat → Int32) (t : Nat) : Int32 := if en_f F t = 0 ∧ F 82 t = 0 then 0 else 1
def en_F (F : Nat → Nat → Int32) (t : Nat) : Nat → Nat → Int32 := uf_ (uf_ (uf_ (uf_ (uf_ F 79 t (en_l F t)) 80 t (F 80 t + 1)) 81 t (en_f F t)) 77 t (if F 77 t = 0 ∧ ¬ en_f F t = 0 then 0 else 1)) 79 t (en_l F t + en_g F t)
set_option maxRecDepth 20000 in
theorem cs_Mo_entry {l : Launch} {g : Nat → Nat} {S : ss_} {Q : Option Value → ss_ → Prop} {t : Nat} (ht : t < 3) (hQ : Q (some (.int (en_g S.1 t))) (en_F S.1 t, S.2)) : cs_ l yy_Mo_entry bb_Mo_entry 4 (some .boolean) 0 0 0 g [.ref (g 60), .int (nI t)] S Q := by
  intro M hS
  refine ct_of (by decide) (Nat.le_of_ble_eq_true rfl) (fun G A => ?_)
  refine jj_aload_n 0 dd_Mo_entry_0 rfl ?_
  refine jj_rS (n := 79) hS dd_Mo_entry_1 ff_Mo_54 rfl (fun _ => rfl) rfl ?_
  refine jj_iload_n 1 dd_Mo_entry_4 rfl ?_
  refine jj_aS hS dd_Mo_entry_5 rfl (vp_in_nI (n := t) (by omega) (by decide)) (t) (nI_clamp (n := t) (by omega)) ?_
  refine jj_bipush (v := 8) dd_Mo_entry_6 rfl ?_
  refine jj_icmp_ne (tgt := 18) dd_Mo_entry_8 (by decide) (fun h8 => ?_) (fun h8 => ?_)
  · skip
    refine jj_aload_n 0 dd_Mo_entry_18 rfl ?_
    refine jj_rS (n := 80) hS dd_Mo_entry_19 ff_Mo_57 rfl (fun _ => rfl) rfl ?_
    refine jj_iload_n 1 dd_Mo_entry_22 rfl ?_
    refine jj_dup2 dd_Mo_entry_23 rfl rfl ?_
    refine jj_aS hS dd_Mo_entry_24 rfl (vp_in_nI (n := t) (by omega) (by decide)) (t) (nI_clamp (n := t) (by omega)) ?_
    refine jj_iconst (v := 1) dd_Mo_entry_25 rfl ?_
    refine jj_iadd dd_Mo_entry_26 ?_
    refine jj_asS hS dd_Mo_entry_27 rfl (vp_in_nI (n := t) (by omega) (by decide)) (t) (nI_clamp (n := t) (by omega)) (fun M hS => ?_)
    refine jj_aload_n 0 dd_Mo_entry_28 rfl ?_
    refine jj_rS (n := 81) hS dd_Mo_entry_29 ff_Mo_60 rfl (fun _ => rfl) rfl ?_
    refine jj_iload_n 1 dd_Mo_entry_32 rfl ?_
    refine jj_aload_n 0 dd_Mo_entry_33 rfl ?_
    refine jj_rS (n := 81) hS dd_Mo_entry_34 ff_Mo_60 rfl (fun _ => rfl) rfl ?_
    refine jj_iload_n 1 dd_Mo_entry_37 rfl ?_
    refine jj_aS hS dd_Mo_entry_38 rfl (vp_in_nI (n := t) (by omega) (by decide)) (t) (nI_clamp (n := t) (by omega)) ?_
    refine jj_if_le (tgt := 53) dd_Mo_entry_39 (by decide) (fun h39 => ?_) (fun h39 => ?_)
    · skip
      refine jj_iconst (v := (-1)) dd_Mo_entry_53 rfl ?_
      refine jj_asS hS dd_Mo_entry_54 rfl (vp_in_nI (n := t) (by omega) (by decide)) (t) (nI_clamp (n := t) (by omega)) (fun M hS => ?_)
      refine jj_aload_n 0 dd_Mo_entry_55 rfl ?_
      refine jj_rS (n := 81) hS dd_Mo_entry_56 ff_Mo_60 rfl (fun _ => rfl) rfl ?_
      refine jj_iload_n 1 dd_Mo_entry_59 rfl ?_
      refine jj_aS hS dd_Mo_entry_60 rfl (vp_in_nI (n := t) (by omega) (by decide)) (t) (nI_clamp (n := t) (by omega)) ?_
      refine jj_if_ne (tgt := 68) dd_Mo_entry_61 (by decide) (fun h61 => ?_) (fun h61 => ?_)
      · skip
        refine jj_iconst (v := 0) dd_Mo_entry_68 rfl ?_
        refine jj_istore_n (lv' := [(2, .int (0)), (0, .ref (g 60)), (1, .int (nI (t)))]) dd_Mo_entry_69 (Nat.le_of_ble_eq_true rfl) rfl ?_
        refine jj_aload_n 1 dd_Mo_entry_70 rfl ?_
        refine jj_rS (n := 77) hS dd_Mo_entry_71 ff_Mo_47 rfl (fun _ => rfl) rfl ?_
        refine jj_iload_n 2 dd_Mo_entry_74 rfl ?_
        refine jj_aload_n 1 dd_Mo_entry_75 rfl ?_
        refine jj_rS (n := 77) hS dd_Mo_entry_76 ff_Mo_47 rfl (fun _ => rfl) rfl ?_
        refine jj_iload_n 2 dd_Mo_entry_79 rfl ?_
        refine jj_zS hS dd_Mo_entry_80 rfl (vp_in_nI (n := t) (by omega) (by decide)) (t) (nI_clamp (n := t) (by omega)) ?_
        refine jj_if_ne (tgt := 88) dd_Mo_entry_81 (by decide) (fun h81 => ?_) (fun h81 => ?_)
        · skip
          refine jj_iconst (v := 1) dd_Mo_entry_88 rfl ?_
          refine jj_goto (tgt := 93) dd_Mo_entry_89 (by decide) ?_
          refine jj_zsS hS dd_Mo_entry_93 rfl (vp_in_nI (n := t) (by omega) (by decide)) rfl (t) (nI_clamp (n := t) (by omega)) (fun M hS => ?_)
          refine jj_iload_n 0 dd_Mo_entry_94 rfl ?_
          refine jj_if_eq (tgt := 107) dd_Mo_entry_95 (by decide) (fun _ => ?_) (fun h => absurd h (by decide))
          refine jj_iconst (v := 1) dd_Mo_entry_107 rfl ?_
          refine jj_goto (tgt := 112) dd_Mo_entry_108 (by decide) ?_
          refine jj_istore_n (lv' := [(3, .int (1)), (2, .int (0)), (0, .ref (g 60)), (1, .int (nI (t)))]) dd_Mo_entry_112 (Nat.le_of_ble_eq_true rfl) rfl ?_
          refine jj_aload_n 2 dd_Mo_entry_113 rfl ?_
          refine jj_rS (n := 79) hS dd_Mo_entry_114 ff_Mo_54 rfl (fun _ => rfl) rfl ?_
          refine jj_iload_n 3 dd_Mo_entry_117 rfl ?_
          refine jj_dup2 dd_Mo_entry_118 rfl rfl ?_
          refine jj_aS hS dd_Mo_entry_119 rfl (vp_in_nI (n := t) (by omega) (by decide)) (t) (nI_clamp (n := t) (by omega)) ?_
          refine jj_iload_n 0 dd_Mo_entry_120 rfl ?_
          refine jj_if_eq (tgt := 128) dd_Mo_entry_121 (by decide) (fun h => absurd h (by decide)) (fun _ => ?_)
          refine jj_iconst (v := 1) dd_Mo_entry_124 rfl ?_
          refine jj_goto (tgt := 129) dd_Mo_entry_125 (by decide) ?_
          refine jj_iadd dd_Mo_entry_129 ?_
          refine jj_asS hS dd_Mo_entry_130 rfl (vp_in_nI (n := t) (by omega) (by decide)) (t) (nI_clamp (n := t) (by omega)) (fun M hS => ?_)
          refine jj_iload_n 0 dd_Mo_entry_131 rfl ?_
          refine jj_iret dd_Mo_entry_132 rfl rfl ?_
          refine ⟨_, hS, ?_⟩
          first | (exfalso; simp [uf_at, -Int32.not_lt, -Int32.not_le] at h8 h39 h61 h81; done) | (simp [uf_at, -Int32.not_lt, -Int32.not_le] at h8 h39 h61 h81; simpa [uf_at, uf_same, en_F, en_g, en_f, en_l, -Int32.not_lt, -Int32.not_le, h8, h39, h61, h81] using hQ) | (simpa [uf_at, uf_same, en_F, en_g, en_f, en_l, -Int32.not_lt, -Int32.not_le, h8, h39, h61, h81] using hQ)
        · skip
          refine jj_iload_n 0 dd_Mo_entry_84 rfl ?_
          refine jj_if_eq (tgt := 92) dd_Mo_entry_85 (by decide) (fun _ => ?_) (fun h => absurd h (by decide))
          refine jj_iconst (v := 0) dd_Mo_entry_92 rfl ?_
          refine jj_zsS hS dd_Mo_entry_93 rfl (vp_in_nI (n := t) (by omega) (by decide)) rfl (t) (nI_clamp (n := t) (by omega)) (fun M hS => ?_)
          refine jj_iload_n 0 dd_Mo_entry_94 rfl ?_
          refine jj_if_eq (tgt := 107) dd_Mo_entry_95 (by decide) (fun _ => ?_) (fun h => absurd h (by decide))
          refine jj_iconst (v := 1) dd_Mo_entry_107 rfl ?_
          refine jj_goto (tgt := 112) dd_Mo_entry_108 (by decide) ?_
          refine jj_istore_n (lv' := [(3, .int (1)), (2, .int (0)), (0, .ref (g 60)), (1, .int (nI (t)))]) dd_Mo_entry_112 (Nat.le_of_ble_eq_true rfl) rfl ?_
          refine jj_aload_n 2 dd_Mo_entry_113 rfl ?_
          refine jj_rS (n := 79) hS dd_Mo_entry_114 ff_Mo_54 rfl (fun _ => rfl) rfl ?_
          refine jj_iload_n 3 dd_Mo_entry_117 rfl ?_
          refine jj_dup2 dd_Mo_entry_118 rfl rfl ?_
          refine jj_aS hS dd_Mo_entry_119 rfl (vp_in_nI (n := t) (by omega) (by decide)) (t) (nI_clamp (n := t) (by omega)) ?_
          refine jj_iload_n 0 dd_Mo_entry_120 rfl ?_
          refine jj_if_eq (tgt := 128) dd_Mo_entry_121 (by decide) (fun h => absurd h (by decide)) (fun _ => ?_)
          refine jj_iconst (v := 1) dd_Mo_entry_124 rfl ?_
          refine jj_goto (tgt := 129) dd_Mo_entry_125 (by decide) ?_
          refine jj_iadd dd_Mo_entry_129 ?_
          refine jj_asS hS dd_Mo_entry_130 rfl (vp_in_nI (n := t) (by omega) (by decide)) (t) (nI_clamp (n := t) (by omega)) (fun M hS => ?_)
          refine jj_iload_n 0 dd_Mo_entry_131 rfl ?_
          refine jj_iret dd_Mo_entry_132 rfl rfl ?_
          refine ⟨_, hS, ?_⟩
          first | (exfalso; simp [uf_at, -Int32.not_lt, -Int32.not_le] at h8 h39 h61 h81; done) | (simp [uf_at, -Int32.not_lt, -Int32.not_le] at h8 h39 h61 h81; simpa [uf_at, uf_same, en_F, en_g, en_f, en_l, -Int32.not_lt, -Int32.not_le, h8, h39, h61, h81] using hQ) | (simpa [uf_at, uf_same, en_F, en_g, en_f, en_l, -Int32.not_lt, -Int32.not_le, h8, h39, h61, h81] using hQ)
      · skip
        refine jj_iconst (v := 1) dd_Mo_entry_64 rfl ?_
        refine jj_goto (tgt := 69) dd_Mo_entry_65 (by decide) ?_
        refine jj_istore_n (lv' := [(2, .int (1)), (0, .ref (g 60)), (1, .int (nI (t)))]) dd_Mo_entry_69 (Nat.le_of_ble_eq_true rfl) rfl ?_
        refine jj_aload_n 1 dd_Mo_entry_70 rfl ?_
        refine jj_rS (n := 77) hS dd_Mo_entry_71 ff_Mo_47 rfl (fun _ => rfl) rfl ?_
        refine jj_iload_n 2 dd_Mo_entry_74 rfl ?_
        refine jj_aload_n 1 dd_Mo_entry_75 rfl ?_
        refine jj_rS (n := 77) hS dd_Mo_entry_76 ff_Mo_47 rfl (fun _ => rfl) rfl ?_
        refine jj_iload_n 2 dd_Mo_entry_79 rfl ?_
        refine jj_zS hS dd_Mo_entry_80 rfl (vp_in_nI (n := t) (by omega) (by decide)) (t) (nI_clamp (n := t) (by omega)) ?_
        refine jj_if_ne (tgt := 88) dd_Mo_entry_81 (by decide) (fun h81 => ?_) (fun h81 => ?_)
        · skip
          refine jj_iconst (v := 1) dd_Mo_entry_88 rfl ?_
          refine jj_goto (tgt := 93) dd_Mo_entry_89 (by decide) ?_
          refine jj_zsS hS dd_Mo_entry_93 rfl (vp_in_nI (n := t) (by omega) (by decide)) rfl (t) (nI_clamp (n := t) (by omega)) (fun M hS => ?_)
          refine jj_iload_n 0 dd_Mo_entry_94 rfl ?_
          refine jj_if_eq (tgt := 107) dd_Mo_entry_95 (by decide) (fun h => absurd h (by decide)) (fun _ => ?_)
          refine jj_aload_n 1 dd_Mo_entry_98 rfl ?_
          refine jj_rS (n := 82) hS dd_Mo_entry_99 ff_Mo_63 rfl (fun _ => rfl) rfl ?_
          refine jj_iload_n 2 dd_Mo_entry_102 rfl ?_
          refine jj_zS hS dd_Mo_entry_103 rfl (vp_in_nI (n := t) (by omega) (by decide)) (t) (nI_clamp (n := t) (by omega)) ?_
          refine jj_if_eq (tgt := 111) dd_Mo_entry_104 (by decide) (fun h104 => ?_) (fun h104 => ?_)
          · skip
            refine jj_iconst (v := 0) dd_Mo_entry_111 rfl ?_
            refine jj_istore_n (lv' := [(3, .int (0)), (2, .int (1)), (0, .ref (g 60)), (1, .int (nI (t)))]) dd_Mo_entry_112 (Nat.le_of_ble_eq_true rfl) rfl ?_
            refine jj_aload_n 2 dd_Mo_entry_113 rfl ?_
            refine jj_rS (n := 79) hS dd_Mo_entry_114 ff_Mo_54 rfl (fun _ => rfl) rfl ?_
            refine jj_iload_n 3 dd_Mo_entry_117 rfl ?_
            refine jj_dup2 dd_Mo_entry_118 rfl rfl ?_
            refine jj_aS hS dd_Mo_entry_119 rfl (vp_in_nI (n := t) (by omega) (by decide)) (t) (nI_clamp (n := t) (by omega)) ?_
            refine jj_iload_n 0 dd_Mo_entry_120 rfl ?_
            refine jj_if_eq (tgt := 128) dd_Mo_entry_121 (by decide) (fun _ => ?_) (fun h => absurd h (by decide))
            refine jj_iconst (v := 0) dd_Mo_entry_128 rfl ?_
            refine jj_iadd dd_Mo_entry_129 ?_
            refine jj_asS hS dd_Mo_entry_130 rfl (vp_in_nI (n := t) (by omega) (by decide)) (t) (nI_clamp (n := t) (by omega)) (fun M hS => ?_)
            refine jj_iload_n 0 dd_Mo_entry_131 rfl ?_
            refine jj_iret dd_Mo_entry_132 rfl rfl ?_
            refine ⟨_, hS, ?_⟩
            first | (exfalso; simp [uf_at, -Int32.not_lt, -Int32.not_le] at h8 h39 h61 h81 h104; done) | (simp [uf_at, -Int32.not_lt, -Int32.not_le] at h8 h39 h61 h81 h104; simpa [uf_at, uf_same, en_F, en_g, en_f, en_l, -Int32.not_lt, -Int32.not_le, h8, h39, h61, h81, h104] using hQ) | (simpa [uf_at, uf_same, en_F, en_g, en_f, en_l, -Int32.not_lt, -Int32.not_le, h8, h39, h61, h81, h104] using hQ)
          · skip
            refine jj_iconst (v := 1) dd_Mo_entry_107 rfl ?_
            refine jj_goto (tgt := 112) dd_Mo_entry_108 (by decide) ?_
            refine jj_istore_n (lv' := [(3, .int (1)), (2, .int (1)), (0, .ref (g 60)), (1, .int (nI (t)))]) dd_Mo_entry_112 (Nat.le_of_ble_eq_true rfl) rfl ?_
            refine jj_aload_n 2 dd_Mo_entry_113 rfl ?_
            refine jj_rS (n := 79) hS dd_Mo_entry_114 ff_Mo_54 rfl (fun _ => rfl) rfl ?_
            refine jj_iload_n 3 dd_Mo_entry_117 rfl ?_
            refine jj_dup2 dd_Mo_entry_118 rfl rfl ?_
            refine jj_aS hS dd_Mo_entry_119 rfl (vp_in_nI (n := t) (by omega) (by decide)) (t) (nI_clamp (n := t) (by omega)) ?_
            refine jj_iload_n 0 dd_Mo_entry_120 rfl ?_
            refine jj_if_eq (tgt := 128) dd_Mo_entry_121 (by decide) (fun h => absurd h (by decide)) (fun _ => ?_)
            refine jj_iconst (v := 1) dd_Mo_entry_124 rfl ?_
            refine jj_goto (tgt := 129) dd_Mo_entry_125 (by decide) ?_
            refine jj_iadd dd_Mo_entry_129 ?_
            refine jj_asS hS dd_Mo_entry_130 rfl (vp_in_nI (n := t) (by omega) (by decide)) (t) (nI_clamp (n := t) (by omega)) (fun M hS => ?_)
            refine jj_iload_n 0 dd_Mo_entry_131 rfl ?_
            refine jj_iret dd_Mo_entry_132 rfl rfl ?_
            refine ⟨_, hS, ?_⟩
            first | (exfalso; simp [uf_at, -Int32.not_lt, -Int32.not_le] at h8 h39 h61 h81 h104; done) | (simp [uf_at, -Int32.not_lt, -Int32.not_le] at h8 h39 h61 h81 h104; simpa [uf_at, uf_same, en_F, en_g, en_f, en_l, -Int32.not_lt, -Int32.not_le, h8, h39, h61, h81, h104] using hQ) | (simpa [uf_at, uf_same, en_F, en_g, en_f, en_l, -Int32.not_lt, -Int32.not_le, h8, h39, h61, h81, h104] using hQ)
        · skip
          refine jj_iload_n 0 dd_Mo_entry_84 rfl ?_
          refine jj_if_eq (tgt := 92) dd_Mo_entry_85 (by decide) (fun h => absurd h (by decide)) (fun _ => ?_)
          refine jj_iconst (v := 1) dd_Mo_entry_88 rfl ?_
          refine jj_goto (tgt := 93) dd_Mo_entry_89 (by decide) ?_
          refine jj_zsS hS dd_Mo_entry_93 rfl (vp_in_nI (n := t) (by omega) (by decide)) rfl (t) (nI_clamp (n := t) (by omega)) (fun M hS => ?_)
          refine jj_iload_n 0 dd_Mo_entry_94 rfl ?_
          refine jj_if_eq (tgt := 107) dd_Mo_entry_95 (by decide) (fun h => absurd h (by decide)) (fun _ => ?_)
          refine jj_aload_n 1 dd_Mo_entry_98 rfl ?_
          refine jj_rS (n := 82) hS dd_Mo_entry_99 ff_Mo_63 rfl (fun _ => rfl) rfl ?_
          refine jj_iload_n 2 dd_Mo_entry_102 rfl ?_
          refine jj_zS hS dd_Mo_entry_103 rfl (vp_in_nI (n := t) (by omega) (by decide)) (t) (nI_clamp (n := t) (by omega)) ?_
          refine jj_if_eq (tgt := 111) dd_Mo_entry_104 (by decide) (fun h104 => ?_) (fun h104 => ?_)
          · skip
            refine jj_iconst (v := 0) dd_Mo_entry_111 rfl ?_
            refine jj_istore_n (lv' := [(3, .int (0)), (2, .int (1)), (0, .ref (g 60)), (1, .int (nI (t)))]) dd_Mo_entry_112 (Nat.le_of_ble_eq_true rfl) rfl ?_
            refine jj_aload_n 2 dd_Mo_entry_113 rfl ?_
            refine jj_rS (n := 79) hS dd_Mo_entry_114 ff_Mo_54 rfl (fun _ => rfl) rfl ?_
            refine jj_iload_n 3 dd_Mo_entry_117 rfl ?_
            refine jj_dup2 dd_Mo_entry_118 rfl rfl ?_
            refine jj_aS hS dd_Mo_entry_119 rfl (vp_in_nI (n := t) (by omega) (by decide)) (t) (nI_clamp (n := t) (by omega)) ?_
            refine jj_iload_n 0 dd_Mo_entry_120 rfl ?_
            refine jj_if_eq (tgt := 128) dd_Mo_entry_121 (by decide) (fun _ => ?_) (fun h => absurd h (by decide))
            refine jj_iconst (v := 0) dd_Mo_entry_128 rfl ?_
            refine jj_iadd dd_Mo_entry_129 ?_
            refine jj_asS hS dd_Mo_entry_130 rfl (vp_in_nI (n := t) (by omega) (by decide)) (t) (nI_clamp (n := t) (by omega)) (fun M hS => ?_)
            refine jj_iload_n 0 dd_Mo_entry_131 rfl ?_
            refine jj_iret dd_Mo_entry_132 rfl rfl ?_
            refine ⟨_, hS, ?_⟩
            first | (exfalso; simp [uf_at, -Int32.not_lt, -Int32.not_le] at h8 h39 h61 h81 h104; done) | (simp [uf_at, -Int32.not_lt, -Int32.not_le] at h8 h39 h61 h81 h104; simpa [uf_at, uf_same, en_F, en_g, en_f, en_l, -Int32.not_lt, -Int32.not_le, h8, h39, h61, h81, h104] using hQ) | (simpa [uf_at, uf_same, en_F, en_g, en_f, en_l, -Int32.not_lt, -Int32.not_le, h8, h39, h61, h81, h104] using hQ)
          · skip
            refine jj_iconst (v := 1) dd_Mo_entry_107 rfl ?_
            refine jj_goto (tgt := 112) dd_Mo_entry_108 (by decide) ?_
            refine jj_istore_n (lv' := [(3, .int (1)), (2, .int (1)), (0, .ref (g 60)), (1, .int (nI (t)))]) dd_Mo_entry_112 (Nat.le_of_ble_eq_true rfl) rfl ?_
            refine jj_aload_n 2 dd_Mo_entry_113 rfl ?_
            refine jj_rS (n := 79) hS dd_Mo_entry_114 ff_Mo_54 rfl (fun _ => rfl) rfl ?_
            refine jj_iload_n 3 dd_Mo_entry_117 rfl ?_
            refine jj_dup2 dd_Mo_entry_118 rfl rfl ?_
            refine jj_aS hS dd_Mo_entry_119 rfl (vp_in_nI (n := t) (by omega) (by decide)) (t) (nI_clamp (n := t) (by omega)) ?_
            refine jj_iload_n 0 dd_Mo_entry_120 rfl ?_
            refine jj_if_eq (tgt := 128) dd_Mo_entry_121 (by decide) (fun h => absurd h (by decide)) (fun _ => ?_)
            refine jj_iconst (v := 1) dd_Mo_entry_124 rfl ?_
            refine jj_goto (tgt := 129) dd_Mo_entry_125 (by decide) ?_
            refine jj_iadd dd_Mo_entry_129 ?_
            refine jj_asS hS dd_Mo_entry_130 rfl (vp_in_nI (n := t) (by omega) (by decide)) (t) (nI_clamp (n := t) (by omega)) (fun M hS => ?_)
            refine jj_iload_n 0 dd_Mo_entry_131 rfl ?_
            refine jj_iret dd_Mo_entry_132 rfl rfl ?_
            refine ⟨_, hS, ?_⟩
            first | (exfalso; simp [uf_at, -Int32.not_lt, -Int32.not_le] at h8 h39 h61 h81 h104; done) | (simp [uf_at, -Int32.not_lt, -Int32.not_le] at h8 h39 h61 h81 h104; simpa [uf_at, uf_same, en_F, en_g, en_f, en_l, -Int32.not_lt, -Int32.not_le, h8, h39, h61, h81, h104] using hQ) | (simpa [uf_at, uf_same, en_F, en_g, en_f, en_l, -Int32.not_lt, -Int32.not_le, h8, h39, h61, h81, h104] using hQ)
    · skip
      refine jj_aload_n 0 dd_Mo_entry_42 rfl ?_
      refine jj_rS (n := 81) hS dd_Mo_entry_43 ff_Mo_60 rfl (fun _ => rfl) rfl ?_
      refine jj_iload_n 1 dd_Mo_entry_46 rfl ?_
      refine jj_aS hS dd_Mo_entry_47 rfl (vp_in_nI (n := t) (by omega) (by decide)) (t) (nI_clamp (n := t) (by omega)) ?_
      refine jj_iconst (v := 1) dd_Mo_entry_48 rfl ?_
      refine jj_isub dd_Mo_entry_49 ?_
      refine jj_goto (tgt := 54) dd_Mo_entry_50 (by decide) ?_
      refine jj_asS hS dd_Mo_entry_54 rfl (vp_in_nI (n := t) (by omega) (by decide)) (t) (nI_clamp (n := t) (by omega)) (fun M hS => ?_)
      refine jj_aload_n 0 dd_Mo_entry_55 rfl ?_
      refine jj_rS (n := 81) hS dd_Mo_entry_56 ff_Mo_60 rfl (fun _ => rfl) rfl ?_
      refine jj_iload_n 1 dd_Mo_entry_59 rfl ?_
      refine jj_aS hS dd_Mo_entry_60 rfl (vp_in_nI (n := t) (by omega) (by decide)) (t) (nI_clamp (n := t) (by omega)) ?_
      refine jj_if_ne (tgt := 68) dd_Mo_entry_61 (by decide) (fun h61 => ?_) (fun h61 => ?_)
      · skip
        refine jj_iconst (v := 0) dd_Mo_entry_68 rfl ?_
        refine jj_istore_n (lv' := [(2, .int (0)), (0, .ref (g 60)), (1, .int (nI (t)))]) dd_Mo_entry_69 (Nat.le_of_ble_eq_true rfl) rfl ?_
        refine jj_aload_n 1 dd_Mo_entry_70 rfl ?_
        refine jj_rS (n := 77) hS dd_Mo_entry_71 ff_Mo_47 rfl (fun _ => rfl) rfl ?_
        refine jj_iload_n 2 dd_Mo_entry_74 rfl ?_
        refine jj_aload_n 1 dd_Mo_entry_75 rfl ?_
        refine jj_rS (n := 77) hS dd_Mo_entry_76 ff_Mo_47 rfl (fun _ => rfl) rfl ?_
        refine jj_iload_n 2 dd_Mo_entry_79 rfl ?_
        refine jj_zS hS dd_Mo_entry_80 rfl (vp_in_nI (n := t) (by omega) (by decide)) (t) (nI_clamp (n := t) (by omega)) ?_
        refine jj_if_ne (tgt := 88) dd_Mo_entry_81 (by decide) (fun h81 => ?_) (fun h81 => ?_)
        · skip
          refine jj_iconst (v := 1) dd_Mo_entry_88 rfl ?_
          refine jj_goto (tgt := 93) dd_Mo_entry_89 (by decide) ?_
          refine jj_zsS hS dd_Mo_entry_93 rfl (vp_in_nI (n := t) (by omega) (by decide)) rfl (t) (nI_clamp (n := t) (by omega)) (fun M hS => ?_)
          refine jj_iload_n 0 dd_Mo_entry_94 rfl ?_
          refine jj_if_eq (tgt := 107) dd_Mo_entry_95 (by decide) (fun _ => ?_) (fun h => absurd h (by decide))
          refine jj_iconst (v := 1) dd_Mo_entry_107 rfl ?_
          refine jj_goto (tgt := 112) dd_Mo_entry_108 (by decide) ?_
          refine jj_istore_n (lv' := [(3, .int (1)), (2, .int (0)), (0, .ref (g 60)), (1, .int (nI (t)))]) dd_Mo_entry_112 (Nat.le_of_ble_eq_true rfl) rfl ?_
          refine jj_aload_n 2 dd_Mo_entry_113 rfl ?_
          refine jj_rS (n := 79) hS dd_Mo_entry_114 ff_Mo_54 rfl (fun _ => rfl) rfl ?_
          refine jj_iload_n 3 dd_Mo_entry_117 rfl ?_
          refine jj_dup2 dd_Mo_entry_118 rfl rfl ?_
          refine jj_aS hS dd_Mo_entry_119 rfl (vp_in_nI (n := t) (by omega) (by decide)) (t) (nI_clamp (n := t) (by omega)) ?_
          refine jj_iload_n 0 dd_Mo_entry_120 rfl ?_
          refine jj_if_eq (tgt := 128) dd_Mo_entry_121 (by decide) (fun h => absurd h (by decide)) (fun _ => ?_)
          refine jj_iconst (v := 1) dd_Mo_entry_124 rfl ?_
          refine jj_goto (tgt := 129) dd_Mo_entry_125 (by decide) ?_
          refine jj_iadd dd_Mo_entry_129 ?_
          refine jj_asS hS dd_Mo_entry_130 rfl (vp_in_nI (n := t) (by omega) (by decide)) (t) (nI_clamp (n := t) (by omega)) (fun M hS => ?_)
          refine jj_iload_n 0 dd_Mo_entry_131 rfl ?_
          refine jj_iret dd_Mo_entry_132 rfl rfl ?_
          refine ⟨_, hS, ?_⟩
          first | (exfalso; simp [uf_at, -Int32.not_lt, -Int32.not_le] at h8 h39 h61 h81; done) | (simp [uf_at, -Int32.not_lt, -Int32.not_le] at h8 h39 h61 h81; simpa [uf_at, uf_same, en_F, en_g, en_f, en_l, -Int32.not_lt, -Int32.not_le, h8, h39, h61, h81] using hQ) | (simpa [uf_at, uf_same, en_F, en_g, en_f, en_l, -Int32.not_lt, -Int32.not_le, h8, h39, h61, h81] using hQ)
        · skip
          refine jj_iload_n 0 dd_Mo_entry_84 rfl ?_
          refine jj_if_eq (tgt := 92) dd_Mo_entry_85 (by decide) (fun _ => ?_) (fun h => absurd h (by decide))
          refine jj_iconst (v := 0) dd_Mo_entry_92 rfl ?_
          refine jj_zsS hS dd_Mo_entry_93 rfl (vp_in_nI (n := t) (by omega) (by decide)) rfl (t) (nI_clamp (n := t) (by omega)) (fun M hS => ?_)
          refine jj_iload_n 0 dd_Mo_entry_94 rfl ?_
          refine jj_if_eq (tgt := 107) dd_Mo_entry_95 (by decide) (fun _ => ?_) (fun h => absurd h (by decide))
          refine jj_iconst (v := 1) dd_Mo_entry_107 rfl ?_
          refine jj_goto (tgt := 112) dd_Mo_entry_108 (by decide) ?_
          refine jj_istore_n (lv' := [(3, .int (1)), (2, .int (0)), (0, .ref (g 60)), (1, .int (nI (t)))]) dd_Mo_entry_112 (Nat.le_of_ble_eq_true rfl) rfl ?_
          refine jj_aload_n 2 dd_Mo_entry_113 rfl ?_
          refine jj_rS (n := 79) hS dd_Mo_entry_114 ff_Mo_54 rfl (fun _ => rfl) rfl ?_
          refine jj_iload_n 3 dd_Mo_entry_117 rfl ?_
          refine jj_dup2 dd_Mo_entry_118 rfl rfl ?_
          refine jj_aS hS dd_Mo_entry_119 rfl (vp_in_nI (n := t) (by omega) (by decide)) (t) (nI_clamp (n := t) (by omega)) ?_
          refine jj_iload_n 0 dd_Mo_entry_120 rfl ?_
          refine jj_if_eq (tgt := 128) dd_Mo_entry_121 (by decide) (fun h => absurd h (by decide)) (fun _ => ?_)
          refine jj_iconst (v := 1) dd_Mo_entry_124 rfl ?_
          refine jj_goto (tgt := 129) dd_Mo_entry_125 (by decide) ?_
          refine jj_iadd dd_Mo_entry_129 ?_
          refine jj_asS hS dd_Mo_entry_130 rfl (vp_in_nI (n := t) (by omega) (by decide)) (t) (nI_clamp (n := t) (by omega)) (fun M hS => ?_)
          refine jj_iload_n 0 dd_Mo_entry_131 rfl ?_
          refine jj_iret dd_Mo_entry_132 rfl rfl ?_
          refine ⟨_, hS, ?_⟩
          first | (exfalso; simp [uf_at, -Int32.not_lt, -Int32.not_le] at h8 h39 h61 h81; done) | (simp [uf_at, -Int32.not_lt, -Int32.not_le] at h8 h39 h61 h81; simpa [uf_at, uf_same, en_F, en_g, en_f, en_l, -Int32.not_lt, -Int32.not_le, h8, h39, h61, h81] using hQ) | (simpa [uf_at, uf_same, en_F, en_g, en_f, en_l, -Int32.not_lt, -Int32.not_le, h8, h39, h61, h81] using hQ)
      · skip
        refine jj_iconst (v := 1) dd_Mo_entry_64 rfl ?_
        refine jj_goto (tgt := 69) dd_Mo_entry_65 (by decide) ?_
        refine jj_istore_n (lv' := [(2, .int (1)), (0, .ref (g 60)), (1, .int (nI (t)))]) dd_Mo_entry_69 (Nat.le_of_ble_eq_true rfl) rfl ?_
        refine jj_aload_n 1 dd_Mo_entry_70 rfl ?_
        refine jj_rS (n := 77) hS dd_Mo_entry_71 ff_Mo_47 rfl (fun _ => rfl) rfl ?_
        refine jj_iload_n 2 dd_Mo_entry_74 rfl ?_
        refine jj_aload_n 1 dd_Mo_entry_75 rfl ?_
        refine jj_rS (n := 77) hS dd_Mo_entry_76 ff_Mo_47 rfl (fun _ => rfl) rfl ?_
        refine jj_iload_n 2 dd_Mo_entry_79 rfl ?_
        refine jj_zS hS dd_Mo_entry_80 rfl (vp_in_nI (n := t) (by omega) (by decide)) (t) (nI_clamp (n := t) (by omega)) ?_
        refine jj_if_ne (tgt := 88) dd_Mo_entry_81 (by decide) (fun h81 => ?_) (fun h81 => ?_)
        · skip
          refine jj_iconst (v := 1) dd_Mo_entry_88 rfl ?_
          refine jj_goto (tgt := 93) dd_Mo_entry_89 (by decide) ?_
          refine jj_zsS hS dd_Mo_entry_93 rfl (vp_in_nI (n := t) (by omega) (by decide)) rfl (t) (nI_clamp (n := t) (by omega)) (fun M hS => ?_)
          refine jj_iload_n 0 dd_Mo_entry_94 rfl ?_
          refine jj_if_eq (tgt := 107) dd_Mo_entry_95 (by decide) (fun h => absurd h (by decide)) (fun _ => ?_)
          refine jj_aload_n 1 dd_Mo_entry_98 rfl ?_
          refine jj_rS (n := 82) hS dd_Mo_entry_99 ff_Mo_63 rfl (fun _ => rfl) rfl ?_
          refine jj_iload_n 2 dd_Mo_entry_102 rfl ?_
          refine jj_zS hS dd_Mo_entry_103 rfl (vp_in_nI (n := t) (by omega) (by decide)) (t) (nI_clamp (n := t) (by omega)) ?_
          refine jj_if_eq (tgt := 111) dd_Mo_entry_104 (by decide) (fun h104 => ?_) (fun h104 => ?_)
          · skip
            refine jj_iconst (v := 0) dd_Mo_entry_111 rfl ?_
            refine jj_istore_n (lv' := [(3, .int (0)), (2, .int (1)), (0, .ref (g 60)), (1, .int (nI (t)))]) dd_Mo_entry_112 (Nat.le_of_ble_eq_true rfl) rfl ?_
            refine jj_aload_n 2 dd_Mo_entry_113 rfl ?_
            refine jj_rS (n := 79) hS dd_Mo_entry_114 ff_Mo_54 rfl (fun _ => rfl) rfl ?_
            refine jj_iload_n 3 dd_Mo_entry_117 rfl ?_
            refine jj_dup2 dd_Mo_entry_118 rfl rfl ?_
            refine jj_aS hS dd_Mo_entry_119 rfl (vp_in_nI (n := t) (by omega) (by decide)) (t) (nI_clamp (n := t) (by omega)) ?_
            refine jj_iload_n 0 dd_Mo_entry_120 rfl ?_
            refine jj_if_eq (tgt := 128) dd_Mo_entry_121 (by decide) (fun _ => ?_) (fun h => absurd h (by decide))
            refine jj_iconst (v := 0) dd_Mo_entry_128 rfl ?_
            refine jj_iadd dd_Mo_entry_129 ?_
            refine jj_asS hS dd_Mo_entry_130 rfl (vp_in_nI (n := t) (by omega) (by decide)) (t) (nI_clamp (n := t) (by omega)) (fun M hS => ?_)
            refine jj_iload_n 0 dd_Mo_entry_131 rfl ?_
            refine jj_iret dd_Mo_entry_132 rfl rfl ?_
            refine ⟨_, hS, ?_⟩
            first | (exfalso; simp [uf_at, -Int32.not_lt, -Int32.not_le] at h8 h39 h61 h81 h104; done) | (simp [uf_at, -Int32.not_lt, -Int32.not_le] at h8 h39 h61 h81 h104; simpa [uf_at, uf_same, en_F, en_g, en_f, en_l, -Int32.not_lt, -Int32.not_le, h8, h39, h61, h81, h104] using hQ) | (simpa [uf_at, uf_same, en_F, en_g, en_f, en_l, -Int32.not_lt, -Int32.not_le, h8, h39, h61, h81, h104] using hQ)
          · skip
            refine jj_iconst (v := 1) dd_Mo_entry_107 rfl ?_
            refine jj_goto (tgt := 112) dd_Mo_entry_108 (by decide) ?_
            refine jj_istore_n (lv' := [(3, .int (1)), (2, .int (1)), (0, .ref (g 60)), (1, .int (nI (t)))]) dd_Mo_entry_112 (Nat.le_of_ble_eq_true rfl) rfl ?_
            refine jj_aload_n 2 dd_Mo_entry_113 rfl ?_
            refine jj_rS (n := 79) hS dd_Mo_entry_114 ff_Mo_54 rfl (fun _ => rfl) rfl ?_
            refine jj_iload_n 3 dd_Mo_entry_117 rfl ?_
            refine jj_dup2 dd_Mo_entry_118 rfl rfl ?_
            refine jj_aS hS dd_Mo_entry_119 rfl (vp_in_nI (n := t) (by omega) (by decide)) (t) (nI_clamp (n := t) (by omega)) ?_
            refine jj_iload_n 0 dd_Mo_entry_120 rfl ?_
            refine jj_if_eq (tgt := 128) dd_Mo_entry_121 (by decide) (fun h => absurd h (by decide)) (fun _ => ?_)
            refine jj_iconst (v := 1) dd_Mo_entry_124 rfl ?_
            refine jj_goto (tgt := 129) dd_Mo_entry_125 (by decide) ?_
            refine jj_iadd dd_Mo_entry_129 ?_
            refine jj_asS hS dd_Mo_entry_130 rfl (vp_in_nI (n := t) (by omega) (by decide)) (t) (nI_clamp (n := t) (by omega)) (fun M hS => ?_)
            refine jj_iload_n 0 dd_Mo_entry_131 rfl ?_
            refine jj_iret dd_Mo_entry_132 rfl rfl ?_
            refine ⟨_, hS, ?_⟩
            first | (exfalso; simp [uf_at, -Int32.not_lt, -Int32.not_le] at h8 h39 h61 h81 h104; done) | (simp [uf_at, -Int32.not_lt, -Int32.not_le] at h8 h39 h61 h81 h104; simpa [uf_at, uf_same, en_F, en_g, en_f, en_l, -Int32.not_lt, -Int32.not_le, h8, h39, h61, h81, h104] using hQ) | (simpa [uf_at, uf_same, en_F, en_g, en_f, en_l, -Int32.not_lt, -Int32.not_le, h8, h39, h61, h81, h104] using hQ)
        · skip
          refine jj_iload_n 0 dd_Mo_entry_84 rfl ?_
          refine jj_if_eq (tgt := 92) dd_Mo_entry_85 (by decide) (fun h => absurd h (by decide)) (fun _ => ?_)
          refine jj_iconst (v := 1) dd_Mo_entry_88 rfl ?_
          refine jj_goto (tgt := 93) dd_Mo_entry_89 (by decide) ?_
          refine jj_zsS hS dd_Mo_entry_93 rfl (vp_in_nI (n := t) (by omega) (by decide)) rfl (t) (nI_clamp (n := t) (by omega)) (fun M hS => ?_)
          refine jj_iload_n 0 dd_Mo_entry_94 rfl ?_
          refine jj_if_eq (tgt := 107) dd_Mo_entry_95 (by decide) (fun h => absurd h (by decide)) (fun _ => ?_)
          refine jj_aload_n 1 dd_Mo_entry_98 rfl ?_
          refine jj_rS (n := 82) hS dd_Mo_entry_99 ff_Mo_63 rfl (fun _ => rfl) rfl ?_
          refine jj_iload_n 2 dd_Mo_entry_102 rfl ?_
          refine jj_zS hS dd_Mo_entry_103 rfl (vp_in_nI (n := t) (by omega) (by decide)) (t) (nI_clamp (n := t) (by omega)) ?_
          refine jj_if_eq (tgt := 111) dd_Mo_entry_104 (by decide) (fun h104 => ?_) (fun h104 => ?_)
          · skip
            refine jj_iconst (v := 0) dd_Mo_entry_111 rfl ?_
            refine jj_istore_n (lv' := [(3, .int (0)), (2, .int (1)), (0, .ref (g 60)), (1, .int (nI (t)))]) dd_Mo_entry_112 (Nat.le_of_ble_eq_true rfl) rfl ?_
            refine jj_aload_n 2 dd_Mo_entry_113 rfl ?_
            refine jj_rS (n := 79) hS dd_Mo_entry_114 ff_Mo_54 rfl (fun _ => rfl) rfl ?_
            refine jj_iload_n 3 dd_Mo_entry_117 rfl ?_
            refine jj_dup2 dd_Mo_entry_118 rfl rfl ?_
            refine jj_aS hS dd_Mo_entry_119 rfl (vp_in_nI (n := t) (by omega) (by decide)) (t) (nI_clamp (n := t) (by omega)) ?_
            refine jj_iload_n 0 dd_Mo_entry_120 rfl ?_
            refine jj_if_eq (tgt := 128) dd_Mo_entry_121 (by decide) (fun _ => ?_) (fun h => absurd h (by decide))
            refine jj_iconst (v := 0) dd_Mo_entry_128 rfl ?_
            refine jj_iadd dd_Mo_entry_129 ?_
            refine jj_asS hS dd_Mo_entry_130 rfl (vp_in_nI (n := t) (by omega) (by decide)) (t) (nI_clamp (n := t) (by omega)) (fun M hS => ?_)
            refine jj_iload_n 0 dd_Mo_entry_131 rfl ?_
            refine jj_iret dd_Mo_entry_132 rfl rfl ?_
            refine ⟨_, hS, ?_⟩
            first | (exfalso; simp [uf_at, -Int32.not_lt, -Int32.not_le] at h8 h39 h61 h81 h104; done) | (simp [uf_at, -Int32.not_lt, -Int32.not_le] at h8 h39 h61 h81 h104; simpa [uf_at, uf_same, en_F, en_g, en_f, en_l, -Int32.not_lt, -Int32.not_le, h8, h39, h61, h81, h104] using hQ) | (simpa [uf_at, uf_same, en_F, en_g, en_f, en_l, -Int32.not_lt, -Int32.not_le, h8, h39, h61, h81, h104] using hQ)
          · skip
            refine jj_iconst (v := 1) dd_Mo_entry_107 rfl ?_
            refine jj_goto (tgt := 112) dd_Mo_entry_108 (by decide) ?_
            refine jj_istore_n (lv' := [(3, .int (1)), (2, .int (1)), (0, .ref (g 60)), (1, .int (nI (t)))]) dd_Mo_entry_112 (Nat.le_of_ble_eq_true rfl) rfl ?_
            refine jj_aload_n 2 dd_Mo_entry_113 rfl ?_
            refine jj_rS (n := 79) hS dd_Mo_entry_114 ff_Mo_54 rfl (fun _ => rfl) rfl ?_
            refine jj_iload_n 3 dd_Mo_entry_117 rfl ?_
            refine jj_dup2 dd_Mo_entry_118 rfl rfl ?_
            refine jj_aS hS dd_Mo_entry_119 rfl (vp_in_nI (n := t) (by omega) (by decide)) (t) (nI_clamp (n := t) (by omega)) ?_
            refine jj_iload_n 0 dd_Mo_entry_120 rfl ?_
            refine jj_if_eq (tgt := 128) dd_Mo_entry_121 (by decide) (fun h => absurd h (by decide)) (fun _ => ?_)
            refine jj_iconst (v := 1) dd_Mo_entry_124 rfl ?_
            refine jj_goto (tgt := 129) dd_Mo_entry_125 (by decide) ?_
            refine jj_iadd dd_Mo_entry_129 ?_
            refine jj_asS hS dd_Mo_entry_130 rfl (vp_in_nI (n := t) (by omega) (by decide)) (t) (nI_clamp (n := t) (by omega)) (fun M hS => ?_)
            refine jj_iload_n 0 dd_Mo_entry_131 rfl ?_
            refine jj_iret dd_Mo_entry_132 rfl rfl ?_
            refine ⟨_, hS, ?_⟩
            first | (exfalso; simp [uf_at, -Int32.not_lt, -Int32.not_le] at h8 h39 h61 h81 h104; done) | (simp [uf_at, -Int32.not_lt, -Int32.not_le] at h8 h39 h61 h81 h104; simpa [uf_at, uf_same, en_F, en_g, en_f, en_l, -Int32.not_lt, -Int32.not_le, h8, h39, h61, h81, h104] using hQ) | (simpa [uf_at, uf_same, en_F, en_g, en_f, en_l, -Int32.not_lt, -Int32.not_le, h8, h39, h61, h81, h104] using hQ)
  · skip
    refine jj_aload_n 0 dd_Mo_entry_11 rfl ?_
    refine jj_rS (n := 79) hS dd_Mo_entry_12 ff_Mo_54 rfl (fun _ => rfl) rfl ?_
    refine jj_iload_n 1 dd_Mo_entry_15 rfl ?_
    refine jj_iconst (v := 0) dd_Mo_entry_16 rfl ?_
    refine jj_asS hS dd_Mo_entry_17 rfl (vp_in_nI (n := t) (by omega) (by decide)) (t) (nI_clamp (n := t) (by omega)) (fun M hS => ?_)
    refine jj_aload_n 0 dd_Mo_entry_18 rfl ?_
    refine jj_rS (n := 80) hS dd_Mo_entry_19 ff_Mo_57 rfl (fun _ => rfl) rfl ?_
    refine jj_iload_n 1 dd_Mo_entry_22 rfl ?_
    refine jj_dup2 dd_Mo_entry_23 rfl rfl ?_
    refine jj_aS hS dd_Mo_entry_24 rfl (vp_in_nI (n := t) (by omega) (by decide)) (t) (nI_clamp (n := t) (by omega)) ?_
    refine jj_iconst (v := 1) dd_Mo_entry_25 rfl ?_
    refine jj_iadd dd_Mo_entry_26 ?_
    refine jj_asS hS dd_Mo_entry_27 rfl (vp_in_nI (n := t) (by omega) (by decide)) (t) (nI_clamp (n := t) (by omega)) (fun M hS => ?_)
    refine jj_aload_n 0 dd_Mo_entry_28 rfl ?_
    refine jj_rS (n := 81) hS dd_Mo_entry_29 ff_Mo_60 rfl (fun _ => rfl) rfl ?_
    refine jj_iload_n 1 dd_Mo_entry_32 rfl ?_
    refine jj_aload_n 0 dd_Mo_entry_33 rfl ?_
    refine jj_rS (n := 81) hS dd_Mo_entry_34 ff_Mo_60 rfl (fun _ => rfl) rfl ?_
    refine jj_iload_n 1 dd_Mo_entry_37 rfl ?_
    refine jj_aS hS dd_Mo_entry_38 rfl (vp_in_nI (n := t) (by omega) (by decide)) (t) (nI_clamp (n := t) (by omega)) ?_
    refine jj_if_le (tgt := 53) dd_Mo_entry_39 (by decide) (fun h39 => ?_) (fun h39 => ?_)
    · skip
      refine jj_iconst (v := (-1)) dd_Mo_entry_53 rfl ?_
      refine jj_asS hS dd_Mo_entry_54 rfl (vp_in_nI (n := t) (by omega) (by decide)) (t) (nI_clamp (n := t) (by omega)) (fun M hS => ?_)
      refine jj_aload_n 0 dd_Mo_entry_55 rfl ?_
      refine jj_rS (n := 81) hS dd_Mo_entry_56 ff_Mo_60 rfl (fun _ => rfl) rfl ?_
      refine jj_iload_n 1 dd_Mo_entry_59 rfl ?_
      refine jj_aS hS dd_Mo_entry_60 rfl (vp_in_nI (n := t) (by omega) (by decide)) (t) (nI_clamp (n := t) (by omega)) ?_
      refine jj_if_ne (tgt := 68) dd_Mo_entry_61 (by decide) (fun h61 => ?_) (fun h61 => ?_)
      · skip
        refine jj_iconst (v := 0) dd_Mo_entry_68 rfl ?_
        refine jj_istore_n (lv' := [(2, .int (0)), (0, .ref (g 60)), (1, .int (nI (t)))]) dd_Mo_entry_69 (Nat.le_of_ble_eq_true rfl) rfl ?_
        refine jj_aload_n 1 dd_Mo_entry_70 rfl ?_
        refine jj_rS (n := 77) hS dd_Mo_entry_71 ff_Mo_47 rfl (fun _ => rfl) rfl ?_
        refine jj_iload_n 2 dd_Mo_entry_74 rfl ?_
        refine jj_aload_n 1 dd_Mo_entry_75 rfl ?_
        refine jj_rS (n := 77) hS dd_Mo_entry_76 ff_Mo_47 rfl (fun _ => rfl) rfl ?_
        refine jj_iload_n 2 dd_Mo_entry_79 rfl ?_
        refine jj_zS hS dd_Mo_entry_80 rfl (vp_in_nI (n := t) (by omega) (by decide)) (t) (nI_clamp (n := t) (by omega)) ?_
        refine jj_if_ne (tgt := 88) dd_Mo_entry_81 (by decide) (fun h81 => ?_) (fun h81 => ?_)
        · skip
          refine jj_iconst (v := 1) dd_Mo_entry_88 rfl ?_
          refine jj_goto (tgt := 93) dd_Mo_entry_89 (by decide) ?_
          refine jj_zsS hS dd_Mo_entry_93 rfl (vp_in_nI (n := t) (by omega) (by decide)) rfl (t) (nI_clamp (n := t) (by omega)) (fun M hS => ?_)
          refine jj_iload_n 0 dd_Mo_entry_94 rfl ?_
          refine jj_if_eq (tgt := 107) dd_Mo_entry_95 (by decide) (fun _ => ?_) (fun h => absurd h (by decide))
          refine jj_iconst (v := 1) dd_Mo_entry_107 rfl ?_
          refine jj_goto (tgt := 112) dd_Mo_entry_108 (by decide) ?_
          refine jj_istore_n (lv' := [(3, .int (1)), (2, .int (0)), (0, .ref (g 60)), (1, .int (nI (t)))]) dd_Mo_entry_112 (Nat.le_of_ble_eq_true rfl) rfl ?_
          refine jj_aload_n 2 dd_Mo_entry_113 rfl ?_
          refine jj_rS (n := 79) hS dd_Mo_entry_114 ff_Mo_54 rfl (fun _ => rfl) rfl ?_
          refine jj_iload_n 3 dd_Mo_entry_117 rfl ?_
          refine jj_dup2 dd_Mo_entry_118 rfl rfl ?_
          refine jj_aS hS dd_Mo_entry_119 rfl (vp_in_nI (n := t) (by omega) (by decide)) (t) (nI_clamp (n := t) (by omega)) ?_
          refine jj_iload_n 0 dd_Mo_entry_120 rfl ?_
          refine jj_if_eq (tgt := 128) dd_Mo_entry_121 (by decide) (fun h => absurd h (by decide)) (fun _ => ?_)
          refine jj_iconst (v := 1) dd_Mo_entry_124 rfl ?_
          refine jj_goto (tgt := 129) dd_Mo_entry_125 (by decide) ?_
          refine jj_iadd dd_Mo_entry_129 ?_
          refine jj_asS hS dd_Mo_entry_130 rfl (vp_in_nI (n := t) (by omega) (by decide)) (t) (nI_clamp (n := t) (by omega)) (fun M hS => ?_)
          refine jj_iload_n 0 dd_Mo_entry_131 rfl ?_
          refine jj_iret dd_Mo_entry_132 rfl rfl ?_
          refine ⟨_, hS, ?_⟩
          first | (exfalso; simp [uf_at, -Int32.not_lt, -Int32.not_le] at h8 h39 h61 h81; done) | (simp [uf_at, -Int32.not_lt, -Int32.not_le] at h8 h39 h61 h81; simpa [uf_at, uf_same, en_F, en_g, en_f, en_l, -Int32.not_lt, -Int32.not_le, h8, h39, h61, h81] using hQ) | (simpa [uf_at, uf_same, en_F, en_g, en_f, en_l, -Int32.not_lt, -Int32.not_le, h8, h39, h61, h81] using hQ)
        · skip
          refine jj_iload_n 0 dd_Mo_entry_84 rfl ?_
          refine jj_if_eq (tgt := 92) dd_Mo_entry_85 (by decide) (fun _ => ?_) (fun h => absurd h (by decide))
          refine jj_iconst (v := 0) dd_Mo_entry_92 rfl ?_
          refine jj_zsS hS dd_Mo_entry_93 rfl (vp_in_nI (n := t) (by omega) (by decide)) rfl (t) (nI_clamp (n := t) (by omega)) (fun M hS => ?_)
          refine jj_iload_n 0 dd_Mo_entry_94 rfl ?_
          refine jj_if_eq (tgt := 107) dd_Mo_entry_95 (by decide) (fun _ => ?_) (fun h => absurd h (by decide))
          refine jj_iconst (v := 1) dd_Mo_entry_107 rfl ?_
          refine jj_goto (tgt := 112) dd_Mo_entry_108 (by decide) ?_
          refine jj_istore_n (lv' := [(3, .int (1)), (2, .int (0)), (0, .ref (g 60)), (1, .int (nI (t)))]) dd_Mo_entry_112 (Nat.le_of_ble_eq_true rfl) rfl ?_
          refine jj_aload_n 2 dd_Mo_entry_113 rfl ?_
          refine jj_rS (n := 79) hS dd_Mo_entry_114 ff_Mo_54 rfl (fun _ => rfl) rfl ?_
          refine jj_iload_n 3 dd_Mo_entry_117 rfl ?_
          refine jj_dup2 dd_Mo_entry_118 rfl rfl ?_
          refine jj_aS hS dd_Mo_entry_119 rfl (vp_in_nI (n := t) (by omega) (by decide)) (t) (nI_clamp (n := t) (by omega)) ?_
          refine jj_iload_n 0 dd_Mo_entry_120 rfl ?_
          refine jj_if_eq (tgt := 128) dd_Mo_entry_121 (by decide) (fun h => absurd h (by decide)) (fun _ => ?_)
          refine jj_iconst (v := 1) dd_Mo_entry_124 rfl ?_
          refine jj_goto (tgt := 129) dd_Mo_entry_125 (by decide) ?_
          refine jj_iadd dd_Mo_entry_129 ?_
          refine jj_asS hS dd_Mo_entry_130 rfl (vp_in_nI (n := t) (by omega) (by decide)) (t) (nI_clamp (n := t) (by omega)) (fun M hS => ?_)
          refine jj_iload_n 0 dd_Mo_entry_131 rfl ?_
          refine jj_iret dd_Mo_entry_132 rfl rfl ?_
          refine ⟨_, hS, ?_⟩
          first | (exfalso; simp [uf_at, -Int32.not_lt, -Int32.not_le] at h8 h39 h61 h81; done) | (simp [uf_at, -Int32.not_lt, -Int32.not_le] at h8 h39 h61 h81; simpa [uf_at, uf_same, en_F, en_g, en_f, en_l, -Int32.not_lt, -Int32.not_le, h8, h39, h61, h81] using hQ) | (simpa [uf_at, uf_same, en_F, en_g, en_f, en_l, -Int32.not_lt, -Int32.not_le, h8, h39, h61, h81] using hQ)
      · skip
        refine jj_iconst (v := 1) dd_Mo_entry_64 rfl ?_
        refine jj_goto (tgt := 69) dd_Mo_entry_65 (by decide) ?_
        refine jj_istore_n (lv' := [(2, .int (1)), (0, .ref (g 60)), (1, .int (nI (t)))]) dd_Mo_entry_69 (Nat.le_of_ble_eq_true rfl) rfl ?_
        refine jj_aload_n 1 dd_Mo_entry_70 rfl ?_
        refine jj_rS (n := 77) hS dd_Mo_entry_71 ff_Mo_47 rfl (fun _ => rfl) rfl ?_
        refine jj_iload_n 2 dd_Mo_entry_74 rfl ?_
        refine jj_aload_n 1 dd_Mo_entry_75 rfl ?_
        refine jj_rS (n := 77) hS dd_Mo_entry_76 ff_Mo_47 rfl (fun _ => rfl) rfl ?_
        refine jj_iload_n 2 dd_Mo_entry_79 rfl ?_
        refine jj_zS hS dd_Mo_entry_80 rfl (vp_in_nI (n := t) (by omega) (by decide)) (t) (nI_clamp (n := t) (by omega)) ?_
        refine jj_if_ne (tgt := 88) dd_Mo_entry_81 (by decide) (fun h81 => ?_) (fun h81 => ?_)
        · skip
          refine jj_iconst (v := 1) dd_Mo_entry_88 rfl ?_
          refine jj_goto (tgt := 93) dd_Mo_entry_89 (by decide) ?_
          refine jj_zsS hS dd_Mo_entry_93 rfl (vp_in_nI (n := t) (by omega) (by decide)) rfl (t) (nI_clamp (n := t) (by omega)) (fun M hS => ?_)
          refine jj_iload_n 0 dd_Mo_entry_94 rfl ?_
          refine jj_if_eq (tgt := 107) dd_Mo_entry_95 (by decide) (fun h => absurd h (by decide)) (fun _ => ?_)
          refine jj_aload_n 1 dd_Mo_entry_98 rfl ?_
          refine jj_rS (n := 82) hS dd_Mo_entry_99 ff_Mo_63 rfl (fun _ => rfl) rfl ?_
          refine jj_iload_n 2 dd_Mo_entry_102 rfl ?_
          refine jj_zS hS dd_Mo_entry_103 rfl (vp_in_nI (n := t) (by omega) (by decide)) (t) (nI_clamp (n := t) (by omega)) ?_
          refine jj_if_eq (tgt := 111) dd_Mo_entry_104 (by decide) (fun h104 => ?_) (fun h104 => ?_)
          · skip
            refine jj_iconst (v := 0) dd_Mo_entry_111 rfl ?_
            refine jj_istore_n (lv' := [(3, .int (0)), (2, .int (1)), (0, .ref (g 60)), (1, .int (nI (t)))]) dd_Mo_entry_112 (Nat.le_of_ble_eq_true rfl) rfl ?_
            refine jj_aload_n 2 dd_Mo_entry_113 rfl ?_
            refine jj_rS (n := 79) hS dd_Mo_entry_114 ff_Mo_54 rfl (fun _ => rfl) rfl ?_
            refine jj_iload_n 3 dd_Mo_entry_117 rfl ?_
            refine jj_dup2 dd_Mo_entry_118 rfl rfl ?_
            refine jj_aS hS dd_Mo_entry_119 rfl (vp_in_nI (n := t) (by omega) (by decide)) (t) (nI_clamp (n := t) (by omega)) ?_
            refine jj_iload_n 0 dd_Mo_entry_120 rfl ?_
            refine jj_if_eq (tgt := 128) dd_Mo_entry_121 (by decide) (fun _ => ?_) (fun h => absurd h (by decide))
            refine jj_iconst (v := 0) dd_Mo_entry_128 rfl ?_
            refine jj_iadd dd_Mo_entry_129 ?_
            refine jj_asS hS dd_Mo_entry_130 rfl (vp_in_nI (n := t) (by omega) (by decide)) (t) (nI_clamp (n := t) (by omega)) (fun M hS => ?_)
            refine jj_iload_n 0 dd_Mo_entry_131 rfl ?_
            refine jj_iret dd_Mo_entry_132 rfl rfl ?_
            refine ⟨_, hS, ?_⟩
            first | (exfalso; simp [uf_at, -Int32.not_lt, -Int32.not_le] at h8 h39 h61 h81 h104; done) | (simp [uf_at, -Int32.not_lt, -Int32.not_le] at h8 h39 h61 h81 h104; simpa [uf_at, uf_same, en_F, en_g, en_f, en_l, -Int32.not_lt, -Int32.not_le, h8, h39, h61, h81, h104] using hQ) | (simpa [uf_at, uf_same, en_F, en_g, en_f, en_l, -Int32.not_lt, -Int32.not_le, h8, h39, h61, h81, h104] using hQ)
          · skip
            refine jj_iconst (v := 1) dd_Mo_entry_107 rfl ?_
            refine jj_goto (tgt := 112) dd_Mo_entry_108 (by decide) ?_
            refine jj_istore_n (lv' := [(3, .int (1)), (2, .int (1)), (0, .ref (g 60)), (1, .int (nI (t)))]) dd_Mo_entry_112 (Nat.le_of_ble_eq_true rfl) rfl ?_
            refine jj_aload_n 2 dd_Mo_entry_113 rfl ?_
            refine jj_rS (n := 79) hS dd_Mo_entry_114 ff_Mo_54 rfl (fun _ => rfl) rfl ?_
            refine jj_iload_n 3 dd_Mo_entry_117 rfl ?_
            refine jj_dup2 dd_Mo_entry_118 rfl rfl ?_
            refine jj_aS hS dd_Mo_entry_119 rfl (vp_in_nI (n := t) (by omega) (by decide)) (t) (nI_clamp (n := t) (by omega)) ?_
            refine jj_iload_n 0 dd_Mo_entry_120 rfl ?_
            refine jj_if_eq (tgt := 128) dd_Mo_entry_121 (by decide) (fun h => absurd h (by decide)) (fun _ => ?_)
            refine jj_iconst (v := 1) dd_Mo_entry_124 rfl ?_
            refine jj_goto (tgt := 129) dd_Mo_entry_125 (by decide) ?_
            refine jj_iadd dd_Mo_entry_129 ?_
            refine jj_asS hS dd_Mo_entry_130 rfl (vp_in_nI (n := t) (by omega) (by decide)) (t) (nI_clamp (n := t) (by omega)) (fun M hS => ?_)
            refine jj_iload_n 0 dd_Mo_entry_131 rfl ?_
            refine jj_iret dd_Mo_entry_132 rfl rfl ?_
            refine ⟨_, hS, ?_⟩
            first | (exfalso; simp [uf_at, -Int32.not_lt, -Int32.not_le] at h8 h39 h61 h81 h104; done) | (simp [uf_at, -Int32.not_lt, -Int32.not_le] at h8 h39 h61 h81 h104; simpa [uf_at, uf_same, en_F, en_g, en_f, en_l, -Int32.not_lt, -Int32.not_le, h8, h39, h61, h81, h104] using hQ) | (simpa [uf_at, uf_same, en_F, en_g, en_f, en_l, -Int32.not_lt, -Int32.not_le, h8, h39, h61, h81, h104] using hQ)
        · skip
          refine jj_iload_n 0 dd_Mo_entry_84 rfl ?_
          refine jj_if_eq (tgt := 92) dd_Mo_entry_85 (by decide) (fun h => absurd h (by decide)) (fun _ => ?_)
          refine jj_iconst (v := 1) dd_Mo_entry_88 rfl ?_
          refine jj_goto (tgt := 93) dd_Mo_entry_89 (by decide) ?_
          refine jj_zsS hS dd_Mo_entry_93 rfl (vp_in_nI (n := t) (by omega) (by decide)) rfl (t) (nI_clamp (n := t) (by omega)) (fun M hS => ?_)
          refine jj_iload_n 0 dd_Mo_entry_94 rfl ?_
          refine jj_if_eq (tgt := 107) dd_Mo_entry_95 (by decide) (fun h => absurd h (by decide)) (fun _ => ?_)
          refine jj_aload_n 1 dd_Mo_entry_98 rfl ?_
          refine jj_rS (n := 82) hS dd_Mo_entry_99 ff_Mo_63 rfl (fun _ => rfl) rfl ?_
          refine jj_iload_n 2 dd_Mo_entry_102 rfl ?_
          refine jj_zS hS dd_Mo_entry_103 rfl (vp_in_nI (n := t) (by omega) (by decide)) (t) (nI_clamp (n := t) (by omega)) ?_
          refine jj_if_eq (tgt := 111) dd_Mo_entry_104 (by decide) (fun h104 => ?_) (fun h104 => ?_)
          · skip
            refine jj_iconst (v := 0) dd_Mo_entry_111 rfl ?_
            refine jj_istore_n (lv' := [(3, .int (0)), (2, .int (1)), (0, .ref (g 60)), (1, .int (nI (t)))]) dd_Mo_entry_112 (Nat.le_of_ble_eq_true rfl) rfl ?_
            refine jj_aload_n 2 dd_Mo_entry_113 rfl ?_
            refine jj_rS (n := 79) hS dd_Mo_entry_114 ff_Mo_54 rfl (fun _ => rfl) rfl ?_
            refine jj_iload_n 3 dd_Mo_entry_117 rfl ?_
            refine jj_dup2 dd_Mo_entry_118 rfl rfl ?_
            refine jj_aS hS dd_Mo_entry_119 rfl (vp_in_nI (n := t) (by omega) (by decide)) (t) (nI_clamp (n := t) (by omega)) ?_
            refine jj_iload_n 0 dd_Mo_entry_120 rfl ?_
            refine jj_if_eq (tgt := 128) dd_Mo_entry_121 (by decide) (fun _ => ?_) (fun h => absurd h (by decide))
            refine jj_iconst (v := 0) dd_Mo_entry_128 rfl ?_
            refine jj_iadd dd_Mo_entry_129 ?_
            refine jj_asS hS dd_Mo_entry_130 rfl (vp_in_nI (n := t) (by omega) (by decide)) (t) (nI_clamp (n := t) (by omega)) (fun M hS => ?_)
            refine jj_iload_n 0 dd_Mo_entry_131 rfl ?_
            refine jj_iret dd_Mo_entry_132 rfl rfl ?_
            refine ⟨_, hS, ?_⟩
            first | (exfalso; simp [uf_at, -Int32.not_lt, -Int32.not_le] at h8 h39 h61 h81 h104; done) | (simp [uf_at, -Int32.not_lt, -Int32.not_le] at h8 h39 h61 h81 h104; simpa [uf_at, uf_same, en_F, en_g, en_f, en_l, -Int32.not_lt, -Int32.not_le, h8, h39, h61, h81, h104] using hQ) | (simpa [uf_at, uf_same, en_F, en_g, en_f, en_l, -Int32.not_lt, -Int32.not_le, h8, h39, h61, h81, h104] using hQ)
          · skip
            refine jj_iconst (v := 1) dd_Mo_entry_107 rfl ?_
            refine jj_goto (tgt := 112) dd_Mo_entry_108 (by decide) ?_
            refine jj_istore_n (lv' := [(3, .int (1)), (2, .int (1)), (0, .ref (g 60)), (1, .int (nI (t)))]) dd_Mo_entry_112 (Nat.le_of_ble_eq_true rfl) rfl ?_
            refine jj_aload_n 2 dd_Mo_entry_113 rfl ?_
            refine jj_rS (n := 79) hS dd_Mo_entry_114 ff_Mo_54 rfl (fun _ => rfl) rfl ?_
            refine jj_iload_n 3 dd_Mo_entry_117 rfl ?_
            refine jj_dup2 dd_Mo_entry_118 rfl rfl ?_
            refine jj_aS hS dd_Mo_entry_119 rfl (vp_in_nI (n := t) (by omega) (by decide)) (t) (nI_clamp (n := t) (by omega)) ?_
            refine jj_iload_n 0 dd_Mo_entry_120 rfl ?_
            refine jj_if_eq (tgt := 128) dd_Mo_entry_121 (by decide) (fun h => absurd h (by decide)) (fun _ => ?_)
            refine jj_iconst (v := 1) dd_Mo_entry_124 rfl ?_
            refine jj_goto (tgt := 129) dd_Mo_entry_125 (by decide) ?_
            refine jj_iadd dd_Mo_entry_129 ?_
            refine jj_asS hS dd_Mo_entry_130 rfl (vp_in_nI (n := t) (by omega) (by decide)) (t) (nI_clamp (n := t) (by omega)) (fun M hS => ?_)
            refine jj_iload_n 0 dd_Mo_entry_131 rfl ?_
            refine jj_iret dd_Mo_entry_132 rfl rfl ?_
            refine ⟨_, hS, ?_⟩
            first | (exfalso; simp [uf_at, -Int32.not_lt, -Int32.not_le] at h8 h39 h61 h81 h104; done) | (simp [uf_at, -Int32.not_lt, -Int32.not_le] at h8 h39 h61 h81 h104; simpa [uf_at, uf_same, en_F, en_g, en_f, en_l, -Int32.not_lt, -Int32.not_le, h8, h39, h61, h81, h104] using hQ) | (simpa [uf_at, uf_same, en_F, en_g, en_f, en_l, -Int32.not_lt, -Int32.not_le, h8, h39, h61, h81, h104] using hQ)
    · skip
      refine jj_aload_n 0 dd_Mo_entry_42 rfl ?_
      refine jj_rS (n := 81) hS dd_Mo_entry_43 ff_Mo_60 rfl (fun _ => rfl) rfl ?_
      refine jj_iload_n 1 dd_Mo_entry_46 rfl ?_
      refine jj_aS hS dd_Mo_entry_47 rfl (vp_in_nI (n := t) (by omega) (by decide)) (t) (nI_clamp (n := t) (by omega)) ?_
      refine jj_iconst (v := 1) dd_Mo_entry_48 rfl ?_
      refine jj_isub dd_Mo_entry_49 ?_
      refine jj_goto (tgt := 54) dd_Mo_entry_50 (by decide) ?_
      refine jj_asS hS dd_Mo_entry_54 rfl (vp_in_nI (n := t) (by omega) (by decide)) (t) (nI_clamp (n := t) (by omega)) (fun M hS => ?_)
      refine jj_aload_n 0 dd_Mo_entry_55 rfl ?_
      refine jj_rS (n := 81) hS dd_Mo_entry_56 ff_Mo_60 rfl (fun _ => rfl) rfl ?_
      refine jj_iload_n 1 dd_Mo_entry_59 rfl ?_
      refine jj_aS hS dd_Mo_entry_60 rfl (vp_in_nI (n := t) (by omega) (by decide)) (t) (nI_clamp (n := t) (by omega)) ?_
      refine jj_if_ne (tgt := 68) dd_Mo_entry_61 (by decide) (fun h61 => ?_) (fun h61 => ?_)
      · skip
        refine jj_iconst (v := 0) dd_Mo_entry_68 rfl ?_
        refine jj_istore_n (lv' := [(2, .int (0)), (0, .ref (g 60)), (1, .int (nI (t)))]) dd_Mo_entry_69 (Nat.le_of_ble_eq_true rfl) rfl ?_
        refine jj_aload_n 1 dd_Mo_entry_70 rfl ?_
        refine jj_rS (n := 77) hS dd_Mo_entry_71 ff_Mo_47 rfl (fun _ => rfl) rfl ?_
        refine jj_iload_n 2 dd_Mo_entry_74 rfl ?_
        refine jj_aload_n 1 dd_Mo_entry_75 rfl ?_
        refine jj_rS (n := 77) hS dd_Mo_entry_76 ff_Mo_47 rfl (fun _ => rfl) rfl ?_
        refine jj_iload_n 2 dd_Mo_entry_79 rfl ?_
        refine jj_zS hS dd_Mo_entry_80 rfl (vp_in_nI (n := t) (by omega) (by decide)) (t) (nI_clamp (n := t) (by omega)) ?_
        refine jj_if_ne (tgt := 88) dd_Mo_entry_81 (by decide) (fun h81 => ?_) (fun h81 => ?_)
        · skip
          refine jj_iconst (v := 1) dd_Mo_entry_88 rfl ?_
          refine jj_goto (tgt := 93) dd_Mo_entry_89 (by decide) ?_
          refine jj_zsS hS dd_Mo_entry_93 rfl (vp_in_nI (n := t) (by omega) (by decide)) rfl (t) (nI_clamp (n := t) (by omega)) (fun M hS => ?_)
          refine jj_iload_n 0 dd_Mo_entry_94 rfl ?_
          refine jj_if_eq (tgt := 107) dd_Mo_entry_95 (by decide) (fun _ => ?_) (fun h => absurd h (by decide))
          refine jj_iconst (v := 1) dd_Mo_entry_107 rfl ?_
          refine jj_goto (tgt := 112) dd_Mo_entry_108 (by decide) ?_
          refine jj_istore_n (lv' := [(3, .int (1)), (2, .int (0)), (0, .ref (g 60)), (1, .int (nI (t)))]) dd_Mo_entry_112 (Nat.le_of_ble_eq_true rfl) rfl ?_
          refine jj_aload_n 2 dd_Mo_entry_113 rfl ?_
          refine jj_rS (n := 79) hS dd_Mo_entry_114 ff_Mo_54 rfl (fun _ => rfl) rfl ?_
          refine jj_iload_n 3 dd_Mo_entry_117 rfl ?_
          refine jj_dup2 dd_Mo_entry_118 rfl rfl ?_
          refine jj_aS hS dd_Mo_entry_119 rfl (vp_in_nI (n := t) (by omega) (by decide)) (t) (nI_clamp (n := t) (by omega)) ?_
          refine jj_iload_n 0 dd_Mo_entry_120 rfl ?_
          refine jj_if_eq (tgt := 128) dd_Mo_entry_121 (by decide) (fun h => absurd h (by decide)) (fun _ => ?_)
          refine jj_iconst (v := 1) dd_Mo_entry_124 rfl ?_
          refine jj_goto (tgt := 129) dd_Mo_entry_125 (by decide) ?_
          refine jj_iadd dd_Mo_entry_129 ?_
          refine jj_asS hS dd_Mo_entry_130 rfl (vp_in_nI (n := t) (by omega) (by decide)) (t) (nI_clamp (n := t) (by omega)) (fun M hS => ?_)
          refine jj_iload_n 0 dd_Mo_entry_131 rfl ?_
          refine jj_iret dd_Mo_entry_132 rfl rfl ?_
          refine ⟨_, hS, ?_⟩
          first | (exfalso; simp [uf_at, -Int32.not_lt, -Int32.not_le] at h8 h39 h61 h81; done) | (simp [uf_at, -Int32.not_lt, -Int32.not_le] at h8 h39 h61 h81; simpa [uf_at, uf_same, en_F, en_g, en_f, en_l, -Int32.not_lt, -Int32.not_le, h8, h39, h61, h81] using hQ) | (simpa [uf_at, uf_same, en_F, en_g, en_f, en_l, -Int32.not_lt, -Int32.not_le, h8, h39, h61, h81] using hQ)
        · skip
          refine jj_iload_n 0 dd_Mo_entry_84 rfl ?_
          refine jj_if_eq (tgt := 92) dd_Mo_entry_85 (by decide) (fun _ => ?_) (fun h => absurd h (by decide))
          refine jj_iconst (v := 0) dd_Mo_entry_92 rfl ?_
          refine jj_zsS hS dd_Mo_entry_93 rfl (vp_in_nI (n := t) (by omega) (by decide)) rfl (t) (nI_clamp (n := t) (by omega)) (fun M hS => ?_)
          refine jj_iload_n 0 dd_Mo_entry_94 rfl ?_
          refine jj_if_eq (tgt := 107) dd_Mo_entry_95 (by decide) (fun _ => ?_) (fun h => absurd h (by decide))
          refine jj_iconst (v := 1) dd_Mo_entry_107 rfl ?_
          refine jj_goto (tgt := 112) dd_Mo_entry_108 (by decide) ?_
          refine jj_istore_n (lv' := [(3, .int (1)), (2, .int (0)), (0, .ref (g 60)), (1, .int (nI (t)))]) dd_Mo_entry_112 (Nat.le_of_ble_eq_true rfl) rfl ?_
          refine jj_aload_n 2 dd_Mo_entry_113 rfl ?_
          refine jj_rS (n := 79) hS dd_Mo_entry_114 ff_Mo_54 rfl (fun _ => rfl) rfl ?_
          refine jj_iload_n 3 dd_Mo_entry_117 rfl ?_
          refine jj_dup2 dd_Mo_entry_118 rfl rfl ?_
          refine jj_aS hS dd_Mo_entry_119 rfl (vp_in_nI (n := t) (by omega) (by decide)) (t) (nI_clamp (n := t) (by omega)) ?_
          refine jj_iload_n 0 dd_Mo_entry_120 rfl ?_
          refine jj_if_eq (tgt := 128) dd_Mo_entry_121 (by decide) (fun h => absurd h (by decide)) (fun _ => ?_)
          refine jj_iconst (v := 1) dd_Mo_entry_124 rfl ?_
          refine jj_goto (tgt := 129) dd_Mo_entry_125 (by decide) ?_
          refine jj_iadd dd_Mo_entry_129 ?_
          refine jj_asS hS dd_Mo_entry_130 rfl (vp_in_nI (n := t) (by omega) (by decide)) (t) (nI_clamp (n := t) (by omega)) (fun M hS => ?_)
          refine jj_iload_n 0 dd_Mo_entry_131 rfl ?_
          refine jj_iret dd_Mo_entry_132 rfl rfl ?_
          refine ⟨_, hS, ?_⟩
          first | (exfalso; simp [uf_at, -Int32.not_lt, -Int32.not_le] at h8 h39 h61 h81; done) | (simp [uf_at, -Int32.not_lt, -Int32.not_le] at h8 h39 h61 h81; simpa [uf_at, uf_same, en_F, en_g, en_f, en_l, -Int32.not_lt, -Int32.not_le, h8, h39, h61, h81] using hQ) | (simpa [uf_at, uf_same, en_F, en_g, en_f, en_l, -Int32.not_lt, -Int32.not_le, h8, h39, h61, h81] using hQ)
      · skip
        refine jj_iconst (v := 1) dd_Mo_entry_64 rfl ?_
        refine jj_goto (tgt := 69) dd_Mo_entry_65 (by decide) ?_
        refine jj_istore_n (lv' := [(2, .int (1)), (0, .ref (g 60)), (1, .int (nI (t)))]) dd_Mo_entry_69 (Nat.le_of_ble_eq_true rfl) rfl ?_
        refine jj_aload_n 1 dd_Mo_entry_70 rfl ?_
        refine jj_rS (n := 77) hS dd_Mo_entry_71 ff_Mo_47 rfl (fun _ => rfl) rfl ?_
        refine jj_iload_n 2 dd_Mo_entry_74 rfl ?_
        refine jj_aload_n 1 dd_Mo_entry_75 rfl ?_
        refine jj_rS (n := 77) hS dd_Mo_entry_76 ff_Mo_47 rfl (fun _ => rfl) rfl ?_
        refine jj_iload_n 2 dd_Mo_entry_79 rfl ?_
        refine jj_zS hS dd_Mo_entry_80 rfl (vp_in_nI (n := t) (by omega) (by decide)) (t) (nI_clamp (n := t) (by omega)) ?_
        refine jj_if_ne (tgt := 88) dd_Mo_entry_81 (by decide) (fun h81 => ?_) (fun h81 => ?_)
        · skip
          refine jj_iconst (v := 1) dd_Mo_entry_88 rfl ?_
          refine jj_goto (tgt := 93) dd_Mo_entry_89 (by decide) ?_
          refine jj_zsS hS dd_Mo_entry_93 rfl (vp_in_nI (n := t) (by omega) (by decide)) rfl (t) (nI_clamp (n := t) (by omega)) (fun M hS => ?_)
          refine jj_iload_n 0 dd_Mo_entry_94 rfl ?_
          refine jj_if_eq (tgt := 107) dd_Mo_entry_95 (by decide) (fun h => absurd h (by decide)) (fun _ => ?_)
          refine jj_aload_n 1 dd_Mo_entry_98 rfl ?_
          refine jj_rS (n := 82) hS dd_Mo_entry_99 ff_Mo_63 rfl (fun _ => rfl) rfl ?_
          refine jj_iload_n 2 dd_Mo_entry_102 rfl ?_
          refine jj_zS hS dd_Mo_entry_103 rfl (vp_in_nI (n := t) (by omega) (by decide)) (t) (nI_clamp (n := t) (by omega)) ?_
          refine jj_if_eq (tgt := 111) dd_Mo_entry_104 (by decide) (fun h104 => ?_) (fun h104 => ?_)
          · skip
            refine jj_iconst (v := 0) dd_Mo_entry_111 rfl ?_
            refine jj_istore_n (lv' := [(3, .int (0)), (2, .int (1)), (0, .ref (g 60)), (1, .int (nI (t)))]) dd_Mo_entry_112 (Nat.le_of_ble_eq_true rfl) rfl ?_
            refine jj_aload_n 2 dd_Mo_entry_113 rfl ?_
            refine jj_rS (n := 79) hS dd_Mo_entry_114 ff_Mo_54 rfl (fun _ => rfl) rfl ?_
            refine jj_iload_n 3 dd_Mo_entry_117 rfl ?_
            refine jj_dup2 dd_Mo_entry_118 rfl rfl ?_
            refine jj_aS hS dd_Mo_entry_119 rfl (vp_in_nI (n := t) (by omega) (by decide)) (t) (nI_clamp (n := t) (by omega)) ?_
            refine jj_iload_n 0 dd_Mo_entry_120 rfl ?_
            refine jj_if_eq (tgt := 128) dd_Mo_entry_121 (by decide) (fun _ => ?_) (fun h => absurd h (by decide))
            refine jj_iconst (v := 0) dd_Mo_entry_128 rfl ?_
            refine jj_iadd dd_Mo_entry_129 ?_
            refine jj_asS hS dd_Mo_entry_130 rfl (vp_in_nI (n := t) (by omega) (by decide)) (t) (nI_clamp (n := t) (by omega)) (fun M hS => ?_)
            refine jj_iload_n 0 dd_Mo_entry_131 rfl ?_
            refine jj_iret dd_Mo_entry_132 rfl rfl ?_
            refine ⟨_, hS, ?_⟩
            first | (exfalso; simp [uf_at, -Int32.not_lt, -Int32.not_le] at h8 h39 h61 h81 h104; done) | (simp [uf_at, -Int32.not_lt, -Int32.not_le] at h8 h39 h61 h81 h104; simpa [uf_at, uf_same, en_F, en_g, en_f, en_l, -Int32.not_lt, -Int32.not_le, h8, h39, h61, h81, h104] using hQ) | (simpa [uf_at, uf_same, en_F, en_g, en_f, en_l, -Int32.not_lt, -Int32.not_le, h8, h39, h61, h81, h104] using hQ)
          · skip
            refine jj_iconst (v := 1) dd_Mo_entry_107 rfl ?_
            refine jj_goto (tgt := 112) dd_Mo_entry_108 (by decide) ?_
            refine jj_istore_n (lv' := [(3, .int (1)), (2, .int (1)), (0, .ref (g 60)), (1, .int (nI (t)))]) dd_Mo_entry_112 (Nat.le_of_ble_eq_true rfl) rfl ?_
            refine jj_aload_n 2 dd_Mo_entry_113 rfl ?_
            refine jj_rS (n := 79) hS dd_Mo_entry_114 ff_Mo_54 rfl (fun _ => rfl) rfl ?_
            refine jj_iload_n 3 dd_Mo_entry_117 rfl ?_
            refine jj_dup2 dd_Mo_entry_118 rfl rfl ?_
            refine jj_aS hS dd_Mo_entry_119 rfl (vp_in_nI (n := t) (by omega) (by decide)) (t) (nI_clamp (n := t) (by omega)) ?_
            refine jj_iload_n 0 dd_Mo_entry_120 rfl ?_
            refine jj_if_eq (tgt := 128) dd_Mo_entry_121 (by decide) (fun h => absurd h (by decide)) (fun _ => ?_)
            refine jj_iconst (v := 1) dd_Mo_entry_124 rfl ?_
            refine jj_goto (tgt := 129) dd_Mo_entry_125 (by decide) ?_
            refine jj_iadd dd_Mo_entry_129 ?_
            refine jj_asS hS dd_Mo_entry_130 rfl (vp_in_nI (n := t) (by omega) (by decide)) (t) (nI_clamp (n := t) (by omega)) (fun M hS => ?_)
            refine jj_iload_n 0 dd_Mo_entry_131 rfl ?_
            refine jj_iret dd_Mo_entry_132 rfl rfl ?_
            refine ⟨_, hS, ?_⟩
            first | (exfalso; simp [uf_at, -Int32.not_lt, -Int32.not_le] at h8 h39 h61 h81 h104; done) | (simp [uf_at, -Int32.not_lt, -Int32.not_le] at h8 h39 h61 h81 h104; simpa [uf_at, uf_same, en_F, en_g, en_f, en_l, -Int32.not_lt, -Int32.not_le, h8, h39, h61, h81, h104] using hQ) | (simpa [uf_at, uf_same, en_F, en_g, en_f, en_l, -Int32.not_lt, -Int32.not_le, h8, h39, h61, h81, h104] using hQ)
        · skip
          refine jj_iload_n 0 dd_Mo_entry_84 rfl ?_
          refine jj_if_eq (tgt := 92) dd_Mo_entry_85 (by decide) (fun h => absurd h (by decide)) (fun _ => ?_)
          refine jj_iconst (v := 1) dd_Mo_entry_88 rfl ?_
          refine jj_goto (tgt := 93) dd_Mo_entry_89 (by decide) ?_
          refine jj_zsS hS dd_Mo_entry_93 rfl (vp_in_nI (n := t) (by omega) (by decide)) rfl (t) (nI_clamp (n := t) (by omega)) (fun M hS => ?_)
          refine jj_iload_n 0 dd_Mo_entry_94 rfl ?_
          refine jj_if_eq (tgt := 107) dd_Mo_entry_95 (by decide) (fun h => absurd h (by decide)) (fun _ => ?_)
          refine jj_aload_n 1 dd_Mo_entry_98 rfl ?_
          refine jj_rS (n := 82) hS dd_Mo_entry_99 ff_Mo_63 rfl (fun _ => rfl) rfl ?_
          refine jj_iload_n 2 dd_Mo_entry_102 rfl ?_
          refine jj_zS hS dd_Mo_entry_103 rfl (vp_in_nI (n := t) (by omega) (by decide)) (t) (nI_clamp (n := t) (by omega)) ?_
          refine jj_if_eq (tgt := 111) dd_Mo_entry_104 (by decide) (fun h104 => ?_) (fun h104 => ?_)
          · skip
            refine jj_iconst (v := 0) dd_Mo_entry_111 rfl ?_
            refine jj_istore_n (lv' := [(3, .int (0)), (2, .int (1)), (0, .ref (g 60)), (1, .int (nI (t)))]) dd_Mo_entry_112 (Nat.le_of_ble_eq_true rfl) rfl ?_
            refine jj_aload_n 2 dd_Mo_entry_113 rfl ?_
            refine jj_rS (n := 79) hS dd_Mo_entry_114 ff_Mo_54 rfl (fun _ => rfl) rfl ?_
            refine jj_iload_n 3 dd_Mo_entry_117 rfl ?_
            refine jj_dup2 dd_Mo_entry_118 rfl rfl ?_
            refine jj_aS hS dd_Mo_entry_119 rfl (vp_in_nI (n := t) (by omega) (by decide)) (t) (nI_clamp (n := t) (by omega)) ?_
            refine jj_iload_n 0 dd_Mo_entry_120 rfl ?_
            refine jj_if_eq (tgt := 128) dd_Mo_entry_121 (by decide) (fun _ => ?_) (fun h => absurd h (by decide))
            refine jj_iconst (v := 0) dd_Mo_entry_128 rfl ?_
            refine jj_iadd dd_Mo_entry_129 ?_
            refine jj_asS hS dd_Mo_entry_130 rfl (vp_in_nI (n := t) (by omega) (by decide)) (t) (nI_clamp (n := t) (by omega)) (fun M hS => ?_)
            refine jj_iload_n 0 dd_Mo_entry_131 rfl ?_
            refine jj_iret dd_Mo_entry_132 rfl rfl ?_
            refine ⟨_, hS, ?_⟩
            first | (exfalso; simp [uf_at, -Int32.not_lt, -Int32.not_le] at h8 h39 h61 h81 h104; done) | (simp [uf_at, -Int32.not_lt, -Int32.not_le] at h8 h39 h61 h81 h104; simpa [uf_at, uf_same, en_F, en_g, en_f, en_l, -Int32.not_lt, -Int32.not_le, h8, h39, h61, h81, h104] using hQ) | (simpa [uf_at, uf_same, en_F, en_g, en_f, en_l, -Int32.not_lt, -Int32.not_le, h8, h39, h61, h81, h104] using hQ)
          · skip
            refine jj_iconst (v := 1) dd_Mo_entry_107 rfl ?_
            refine jj_goto (tgt := 112) dd_Mo_entry_108 (by decide) ?_
            refine jj_istore_n (lv' := [(3, .int (1)), (2, .int (1)), (0, .ref (g 60)), (1, .int (nI (t)))]) dd_Mo_entry_112 (Nat.le_of_ble_eq_true rfl) rfl ?_
            refine jj_aload_n 2 dd_Mo_entry_113 rfl ?_
            refine jj_rS (n := 79) hS dd_Mo_entry_114 ff_Mo_54 rfl (fun _ => rfl) rfl ?_
            refine jj_iload_n 3 dd_Mo_entry_117 rfl ?_
            refine jj_dup2 dd_Mo_entry_118 rfl rfl ?_
            refine jj_aS hS dd_Mo_entry_119 rfl (vp_in_nI (n := t) (by omega) (by decide)) (t) (nI_clamp (n := t) (by omega)) ?_
            refine jj_iload_n 0 dd_Mo_entry_120 rfl ?_
            refine jj_if_eq (tgt := 128) dd_Mo_entry_121 (by decide) (fun h => absurd h (by decide)) (fun _ => ?_)
            refine jj_iconst (v := 1) dd_Mo_entry_124 rfl ?_
            refine jj_goto (tgt := 129) dd_Mo_entry_125 (by decide) ?_
            refine jj_iadd dd_Mo_entry_129 ?_
            refine jj_asS hS dd_Mo_entry_130 rfl (vp_in_nI (n := t) (by omega) (by decide)) (t) (nI_clamp (n := t) (by omega)) (fun M hS => ?_)
            refine jj_iload_n 0 dd_Mo_entry_131 rfl ?_
            refine jj_iret dd_Mo_entry_132 rfl rfl ?_
            refine ⟨_, hS, ?_⟩
            first | (exfalso; simp [uf_at, -Int32.not_lt, -Int32.not_le] at h8 h39 h61 h81 h104; done) | (simp [uf_at, -Int32.not_lt, -Int32.not_le] at h8 h39 h61 h81 h104; simpa [uf_at, uf_same, en_F, en_g, en_f, en_l, -Int32.not_lt, -Int32.not_le, h8, h39, h61, h81, h104] using hQ) | (simpa [uf_at, uf_same, en_F, en_g, en_f, en_l, -Int32.not_lt, -Int32.not_le, h8, h39, h61, h81, h104] using hQ)
def pu_F (F : Nat → Nat → Int32) (r : Nat) (x1 x2 x3 x4 x5 : Int32) : Nat → Nat → Int32 := uf_ (uf_ (uf_ (uf_ (uf_ (uf_ F 72 r x1) 73 r x2) 74 r x3) 75 r x4) 76 r x5) 60 11 (F 60 11 + 1)
set_option maxRecDepth 20000 in
theorem cs_Mo_put {l : Launch} {g : Nat → Nat} {S : ss_} {Q : Option Value → ss_ → Prop} {r : Nat} {x1 x2 x3 x4 x5 : Int32} (hr : S.1 60 11 = nI r) (hr2 : r < 1540) (hQ : Q none (pu_F S.1 r x1 x2 x3 x4 x5, S.2)) : cs_ l yy_Mo_put bb_Mo_put 6 none 0 0 0 g [.ref (g 60), .int x1, .int x2, .int x3, .int x4, .int x5] S Q := by
  intro M hS
  refine ct_of (by decide) (Nat.le_of_ble_eq_true rfl) (fun G A => ?_)
  refine jj_aload_n 0 dd_Mo_put_0 rfl ?_
  refine jj_rS (n := 72) hS dd_Mo_put_1 ff_Mo_32 rfl (fun _ => rfl) rfl ?_
  refine jj_aload_n 0 dd_Mo_put_4 rfl ?_
  refine jj_gS hS dd_Mo_put_5 ff_Mo_99 rfl (fun _ => rfl) ?_
  refine jj_ti (x' := nI (r)) hr ?_
  refine jj_iload_n 1 dd_Mo_put_8 rfl ?_
  refine jj_asS hS dd_Mo_put_9 rfl (vp_in_nI (n := r) (by omega) (by decide)) (r) (nI_clamp (n := r) (by omega)) (fun M hS => ?_)
  refine jj_aload_n 0 dd_Mo_put_10 rfl ?_
  refine jj_rS (n := 73) hS dd_Mo_put_11 ff_Mo_35 rfl (fun _ => rfl) rfl ?_
  refine jj_aload_n 0 dd_Mo_put_14 rfl ?_
  refine jj_gS hS dd_Mo_put_15 ff_Mo_99 rfl (fun _ => rfl) ?_
  refine jj_ti (x' := nI (r)) (by simpa [uf_at] using hr) ?_
  refine jj_iload_n 2 dd_Mo_put_18 rfl ?_
  refine jj_asS hS dd_Mo_put_19 rfl (vp_in_nI (n := r) (by omega) (by decide)) (r) (nI_clamp (n := r) (by omega)) (fun M hS => ?_)
  refine jj_aload_n 0 dd_Mo_put_20 rfl ?_
  refine jj_rS (n := 74) hS dd_Mo_put_21 ff_Mo_38 rfl (fun _ => rfl) rfl ?_
  refine jj_aload_n 0 dd_Mo_put_24 rfl ?_
  refine jj_gS hS dd_Mo_put_25 ff_Mo_99 rfl (fun _ => rfl) ?_
  refine jj_ti (x' := nI (r)) (by simpa [uf_at] using hr) ?_
  refine jj_iload_n 3 dd_Mo_put_28 rfl ?_
  refine jj_asS hS dd_Mo_put_29 rfl (vp_in_nI (n := r) (by omega) (by decide)) (r) (nI_clamp (n := r) (by omega)) (fun M hS => ?_)
  refine jj_aload_n 0 dd_Mo_put_30 rfl ?_
  refine jj_rS (n := 75) hS dd_Mo_put_31 ff_Mo_41 rfl (fun _ => rfl) rfl ?_
  refine jj_aload_n 0 dd_Mo_put_34 rfl ?_
  refine jj_gS hS dd_Mo_put_35 ff_Mo_99 rfl (fun _ => rfl) ?_
  refine jj_ti (x' := nI (r)) (by simpa [uf_at] using hr) ?_
  refine jj_iload 4 dd_Mo_put_38 rfl ?_
  refine jj_asS hS dd_Mo_put_40 rfl (vp_in_nI (n := r) (by omega) (by decide)) (r) (nI_clamp (n := r) (by omega)) (fun M hS => ?_)
  refine jj_aload_n 0 dd_Mo_put_41 rfl ?_
  refine jj_rS (n := 76) hS dd_Mo_put_42 ff_Mo_44 rfl (fun _ => rfl) rfl ?_
  refine jj_aload_n 0 dd_Mo_put_45 rfl ?_
  refine jj_gS hS dd_Mo_put_46 ff_Mo_99 rfl (fun _ => rfl) ?_
  refine jj_ti (x' := nI (r)) (by simpa [uf_at] using hr) ?_
  refine jj_iload 5 dd_Mo_put_49 rfl ?_
  refine jj_asS hS dd_Mo_put_51 rfl (vp_in_nI (n := r) (by omega) (by decide)) (r) (nI_clamp (n := r) (by omega)) (fun M hS => ?_)
  refine jj_aload_n 0 dd_Mo_put_52 rfl ?_
  refine jj_dup dd_Mo_put_53 rfl ?_
  refine jj_gS hS dd_Mo_put_54 ff_Mo_99 rfl (fun _ => rfl) ?_
  refine jj_iconst (v := 1) dd_Mo_put_57 rfl ?_
  refine jj_iadd dd_Mo_put_58 ?_
  refine jj_pS hS dd_Mo_put_59 ⟨ff_Mo_99, rfl⟩ rfl (fun _ => rfl) ⟨rfl, rfl⟩ (fun M hS => ?_)
  refine jj_vret dd_Mo_put_62 rfl ?_
  refine ⟨_, hS, ?_⟩
  simpa [uf_at, pu_F] using hQ
def ls_ (F : Nat → Nat → Int32) (i c : Nat) : Int32 := if ¬ F 83 c = 0 ∧ F 84 c = F 65 i ∧ F 60 2 - F 68 i < F 60 0 then 0 else 1
set_option maxRecDepth 20000 in
theorem cs_Mo_loose {l : Launch} {g : Nat → Nat} {S : ss_} {Q : Option Value → ss_ → Prop} {i c : Nat} (hi : i < 12) (hc : S.1 67 i = nI c) (hc2 : c < 4) (hQ : Q (some (.int (ls_ S.1 i c))) S) : cs_ l yy_Mo_loose bb_Mo_loose 3 (some .boolean) 0 0 0 g [.ref (g 60), .int (nI i)] S Q := by
  intro M hS
  refine ct_of (by decide) (Nat.le_of_ble_eq_true rfl) (fun G A => ?_)
  refine jj_aload_n 0 dd_Mo_loose_0 rfl ?_
  refine jj_rS (n := 67) hS dd_Mo_loose_1 ff_Mo_20 rfl (fun _ => rfl) rfl ?_
  refine jj_iload_n 1 dd_Mo_loose_4 rfl ?_
  refine jj_aS hS dd_Mo_loose_5 rfl (vp_in_nI (n := i) (by omega) (by decide)) (i) (nI_clamp (n := i) (by omega)) ?_
  refine jj_ti (x' := nI (c)) hc ?_
  refine jj_istore_n (lv' := [(2, .int (nI (c))), (0, .ref (g 60)), (1, .int (nI (i)))]) dd_Mo_loose_6 (Nat.le_of_ble_eq_true rfl) rfl ?_
  refine jj_aload_n 1 dd_Mo_loose_7 rfl ?_
  refine jj_rS (n := 83) hS dd_Mo_loose_8 ff_Mo_66 rfl (fun _ => rfl) rfl ?_
  refine jj_iload_n 0 dd_Mo_loose_11 rfl ?_
  refine jj_aS hS dd_Mo_loose_12 rfl (vp_in_nI (n := c) (by omega) (by decide)) (c) (nI_clamp (n := c) (by omega)) ?_
  refine jj_if_eq (tgt := 49) dd_Mo_loose_13 (by decide) (fun h13 => ?_) (fun h13 => ?_)
  · skip
    refine jj_iconst (v := 1) dd_Mo_loose_49 rfl ?_
    refine jj_goto (tgt := 54) dd_Mo_loose_50 (by decide) ?_
    refine jj_iret dd_Mo_loose_54 rfl rfl ?_
    refine ⟨_, hS, ?_⟩
    simpa [ls_, -Int32.not_lt, -Int32.not_le, h13] using hQ
  · skip
    refine jj_aload_n 1 dd_Mo_loose_16 rfl ?_
    refine jj_rS (n := 84) hS dd_Mo_loose_17 ff_Mo_69 rfl (fun _ => rfl) rfl ?_
    refine jj_iload_n 0 dd_Mo_loose_20 rfl ?_
    refine jj_aS hS dd_Mo_loose_21 rfl (vp_in_nI (n := c) (by omega) (by decide)) (c) (nI_clamp (n := c) (by omega)) ?_
    refine jj_aload_n 1 dd_Mo_loose_22 rfl ?_
    refine jj_rS (n := 65) hS dd_Mo_loose_23 ff_Mo_13 rfl (fun _ => rfl) rfl ?_
    refine jj_iload_n 2 dd_Mo_loose_26 rfl ?_
    refine jj_aS hS dd_Mo_loose_27 rfl (vp_in_nI (n := i) (by omega) (by decide)) (i) (nI_clamp (n := i) (by omega)) ?_
    refine jj_icmp_ne (tgt := 49) dd_Mo_loose_28 (by decide) (fun h28 => ?_) (fun h28 => ?_)
    · skip
      refine jj_iconst (v := 1) dd_Mo_loose_49 rfl ?_
      refine jj_goto (tgt := 54) dd_Mo_loose_50 (by decide) ?_
      refine jj_iret dd_Mo_loose_54 rfl rfl ?_
      refine ⟨_, hS, ?_⟩
      simpa [ls_, -Int32.not_lt, -Int32.not_le, h13, h28] using hQ
    · skip
      refine jj_aload_n 1 dd_Mo_loose_31 rfl ?_
      refine jj_gS hS dd_Mo_loose_32 ff_Mo_110 rfl (fun _ => rfl) ?_
      refine jj_aload_n 1 dd_Mo_loose_35 rfl ?_
      refine jj_rS (n := 68) hS dd_Mo_loose_36 ff_Mo_23 rfl (fun _ => rfl) rfl ?_
      refine jj_iload_n 2 dd_Mo_loose_39 rfl ?_
      refine jj_aS hS dd_Mo_loose_40 rfl (vp_in_nI (n := i) (by omega) (by decide)) (i) (nI_clamp (n := i) (by omega)) ?_
      refine jj_isub dd_Mo_loose_41 ?_
      refine jj_aload_n 1 dd_Mo_loose_42 rfl ?_
      refine jj_gS hS dd_Mo_loose_43 ff_Mo_90 rfl (fun _ => rfl) ?_
      refine jj_icmp_lt (tgt := 53) dd_Mo_loose_46 (by decide) (fun h46 => ?_) (fun h46 => ?_)
      · skip
        refine jj_iconst (v := 0) dd_Mo_loose_53 rfl ?_
        refine jj_iret dd_Mo_loose_54 rfl rfl ?_
        refine ⟨_, hS, ?_⟩
        simpa [ls_, -Int32.not_lt, -Int32.not_le, h13, h28, h46] using hQ
      · skip
        refine jj_iconst (v := 1) dd_Mo_loose_49 rfl ?_
        refine jj_goto (tgt := 54) dd_Mo_loose_50 (by decide) ?_
        refine jj_iret dd_Mo_loose_54 rfl rfl ?_
        refine ⟨_, hS, ?_⟩
        simpa [ls_, -Int32.not_lt, -Int32.not_le, h13, h28, h46] using hQ
