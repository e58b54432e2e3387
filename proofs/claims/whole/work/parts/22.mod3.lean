theorem rec_of {F : Nat → Nat → Int32} {k : Nat} (h : F 60 11 = nI k) (hk : k < 2 ^ 31) : rec_ F = k := by
  unfold rec_
  rw [h]
  exact nI_clamp hk
theorem vo_rk {F : Nat → Nat → Int32} {i k : Nat} {x : Int32} (h : F 60 11 = nI k) : vo_F F i x 60 11 = nI k ∨ vo_F F i x 60 11 = nI (k + 1) := by
  unfold vo_F
  split
  · exact Or.inl ((en_oth _ _ _ _ (by omega)).trans h)
  · right
    simp [uf_at, pu_F, en_oth, h, nI_1]
theorem dn_rk {F : Nat → Nat → Int32} {i k : Nat} {x : Int32} (h : F 60 11 = nI k) : dn_F F i x 60 11 = nI k ∨ dn_F F i x 60 11 = nI (k + 1) := by
  unfold dn_F
  split
  · exact Or.inl ((en_oth _ _ _ _ (by omega)).trans h)
  · right
    simp [uf_at, pu_F, en_oth, h, nI_1]
theorem vo_rec {F : Nat → Nat → Int32} {i : Nat} {x : Int32} (h : F 60 11 = nI (rec_ F)) (hk : rec_ F < 5000) : vo_F F i x 60 11 = nI (rec_ (vo_F F i x)) ∧ rec_ (vo_F F i x) ≤ rec_ F + 1 := by
  rcases vo_rk (i := i) (x := x) h with e | e
  · have e2 := rec_of e (by omega)
    exact ⟨by rw [e2]; exact e, by omega⟩
  · have e2 := rec_of e (by omega)
    exact ⟨by rw [e2]; exact e, by omega⟩
theorem dn_rec {F : Nat → Nat → Int32} {i : Nat} {x : Int32} (h : F 60 11 = nI (rec_ F)) (hk : rec_ F < 5000) : dn_F F i x 60 11 = nI (rec_ (dn_F F i x)) ∧ rec_ (dn_F F i x) ≤ rec_ F + 1 := by
  rcases dn_rk (i := i) (x := x) h with e | e
  · have e2 := rec_of e (by omega)
    exact ⟨by rw [e2]; exact e, by omega⟩
  · have e2 := rec_of e (by omega)
    exact ⟨by rw [e2]; exact e, by omega⟩
def cl_ (F : Nat → Nat → Int32) (i p c : Nat) (K : Int32 → (Nat → Nat → Int32) → Prop) : Prop :=
  if F 77 (p / 4) = 0 then
    if dc_ F (nI p) (F 65 i) ≤ 0 then
      if F 65 p = F 65 i then
        if ls_ F p c = 0 then K 1 F
        else if vo_r F p (F 65 i) = 0 then K 0 (vo_F F p (F 65 i))
        else if nI p = nI i then K 3 (vo_F F p (F 65 i))
        else if vo_r (vo_F F p (F 65 i)) i (F 65 i) = 0 then K 0 (vo_F (vo_F F p (F 65 i)) i (F 65 i)) else K 3 (vo_F (vo_F F p (F 65 i)) i (F 65 i))
      else if vo_r F i (F 65 i) = 0 then K 0 (vo_F F i (F 65 i)) else K 3 (vo_F F i (F 65 i))
    else if dn_r F i (dc_ F (nI p) (F 65 i)) = 0 then K 0 (dn_F F i (dc_ F (nI p) (F 65 i))) else K 2 (dn_F F i (dc_ F (nI p) (F 65 i)))
  else K 0 F
set_option maxRecDepth 20000 in
theorem cs_Mo_clearing {l : Launch} {g : Nat → Nat} {S : ss_} {Q : Option Value → ss_ → Prop} {i p c : Nat} (hi : i < 12) (hp : S.1 66 i = nI p) (hp2 : p < 12) (ho : S.1 67 p = nI c) (hc : c < 4) (hr : S.1 60 11 = nI (rec_ S.1)) (hr2 : rec_ S.1 < 1538) (hQ : cl_ S.1 i p c (fun r F => Q (some (.int r)) (F, S.2))) : cs_ l yy_Mo_clearing bb_Mo_clearing 5 (some .int) 2 0 0 g [.ref (g 60), .int (nI i)] S Q := by
  intro M hS
  refine ct_of (by decide) (Nat.le_of_ble_eq_true rfl) (fun G A => ?_)
  unfold cl_ at hQ
  refine jj_aload_n 0 dd_Mo_clearing_0 rfl ?_
  refine jj_rS (n := 65) hS dd_Mo_clearing_1 ff_Mo_13 rfl (fun _ => rfl) rfl ?_
  refine jj_iload_n 1 dd_Mo_clearing_4 rfl ?_
  refine jj_aS hS dd_Mo_clearing_5 rfl (vp_in_nI (n := i) (by omega) (by decide)) (i) (nI_clamp (n := i) (by omega)) ?_
  refine jj_istore_n (lv' := [(2, .int _), (0, .ref (g 60)), (1, .int (nI (i)))]) dd_Mo_clearing_6 (Nat.le_of_ble_eq_true rfl) rfl ?_
  refine jj_aload_n 1 dd_Mo_clearing_7 rfl ?_
  refine jj_rS (n := 66) hS dd_Mo_clearing_8 ff_Mo_17 rfl (fun _ => rfl) rfl ?_
  refine jj_iload_n 2 dd_Mo_clearing_11 rfl ?_
  refine jj_aS hS dd_Mo_clearing_12 rfl (vp_in_nI (n := i) (by omega) (by decide)) (i) (nI_clamp (n := i) (by omega)) ?_
  refine jj_ti (x' := nI (p)) hp ?_
  refine jj_istore_n (lv' := [(3, .int (nI (p))), (2, .int _), (0, .ref (g 60)), (1, .int (nI (i)))]) dd_Mo_clearing_13 (Nat.le_of_ble_eq_true rfl) rfl ?_
  refine jj_aload_n 2 dd_Mo_clearing_14 rfl ?_
  refine jj_rS (n := 77) hS dd_Mo_clearing_15 ff_Mo_47 rfl (fun _ => rfl) rfl ?_
  refine jj_iload_n 0 dd_Mo_clearing_18 rfl ?_
  refine jj_iconst (v := 4) dd_Mo_clearing_19 rfl ?_
  refine jj_idiv dd_Mo_clearing_20 (by decide) ?_
  refine jj_ti (x' := nI ((p) / 4)) (pk_div (a := p) (d := 4) (by omega) (by decide) (by decide)) ?_
  refine jj_zS hS dd_Mo_clearing_21 rfl (vp_in_nI (n := (p) / 4) (by omega) (by decide)) ((p) / 4) (nI_clamp (n := (p) / 4) (by omega)) ?_
  refine jj_if_eq (tgt := 27) dd_Mo_clearing_22 (by decide) (fun h22 => ?_) (fun h22 => ?_)
  · skip
    refine jj_aload_n 2 dd_Mo_clearing_27 rfl ?_
    refine jj_iload_n 0 dd_Mo_clearing_28 rfl ?_
    refine jj_iload_n 1 dd_Mo_clearing_29 rfl ?_
    refine jj_callV (ci := 7) [_, _] [] 0 0 dd_Mo_clearing_30 cs_Mo_113 ci_Mo_113 (hS.1.1 60 _ rfl) ⟨by decide, rfl⟩ rfl (Nat.le_of_ble_eq_true rfl) ⟨(Nat.le_of_ble_eq_true rfl), (Nat.le_of_ble_eq_true rfl)⟩ ⟨(Nat.le_of_ble_eq_true rfl), (Nat.le_of_ble_eq_true rfl)⟩ rfl (cs_use (cs_Mo_decision hr (by omega) (fun M hS => ?_)) hS)
    refine jj_istore (lv' := [(4, .int _), (3, .int (nI (p))), (2, .int _), (0, .ref (g 60)), (1, .int (nI (i)))]) dd_Mo_clearing_33 (Nat.le_of_ble_eq_true rfl) rfl ?_
    refine jj_iload 0 dd_Mo_clearing_35 rfl ?_
    refine jj_if_le (tgt := 56) dd_Mo_clearing_37 (by decide) (fun h37 => ?_) (fun h37 => ?_)
    · skip
      refine jj_aload_n 3 dd_Mo_clearing_56 rfl ?_
      refine jj_rS (n := 65) hS dd_Mo_clearing_57 ff_Mo_13 rfl (fun _ => rfl) rfl ?_
      refine jj_iload_n 1 dd_Mo_clearing_60 rfl ?_
      refine jj_aS hS dd_Mo_clearing_61 rfl (vp_in_nI (n := p) (by omega) (by decide)) (p) (nI_clamp (n := p) (by omega)) ?_
      refine jj_iload_n 2 dd_Mo_clearing_62 rfl ?_
      refine jj_icmp_ne (tgt := 94) dd_Mo_clearing_63 (by decide) (fun h63 => ?_) (fun h63 => ?_)
      · skip
        refine jj_aload_n 3 dd_Mo_clearing_94 rfl ?_
        refine jj_iload_n 4 dd_Mo_clearing_95 rfl ?_
        refine jj_iload_n 2 dd_Mo_clearing_96 rfl ?_
        refine jj_callV (ci := 7) [_, _] [] 0 0 dd_Mo_clearing_97 cs_Mo_124 ci_Mo_124 (hS.1.1 60 _ rfl) ⟨by decide, rfl⟩ rfl (Nat.le_of_ble_eq_true rfl) ⟨(Nat.le_of_ble_eq_true rfl), (Nat.le_of_ble_eq_true rfl)⟩ ⟨(Nat.le_of_ble_eq_true rfl), (Nat.le_of_ble_eq_true rfl)⟩ rfl (cs_use (cs_Mo_voids (i := i) hi (by first | exact hr | exact (vo_rec hr (by omega)).1) (by first | omega | exact Nat.lt_of_le_of_lt (vo_rec hr (by omega)).2 (by omega)) (fun M hS => ?_)) hS)
        refine jj_if_eq (tgt := 107) dd_Mo_clearing_100 (by decide) (fun h100 => ?_) (fun h100 => ?_)
        · skip
          refine jj_iconst (v := 0) dd_Mo_clearing_107 rfl ?_
          refine jj_iret dd_Mo_clearing_108 rfl rfl ?_
          rw [if_pos h22, if_pos h37, if_neg h63, if_pos h100] at hQ
          exact ⟨_, hS, hQ⟩
        · skip
          refine jj_iconst (v := 3) dd_Mo_clearing_103 rfl ?_
          refine jj_goto (tgt := 108) dd_Mo_clearing_104 (by decide) ?_
          refine jj_iret dd_Mo_clearing_108 rfl rfl ?_
          rw [if_pos h22, if_pos h37, if_neg h63, if_neg h100] at hQ
          exact ⟨_, hS, hQ⟩
      · skip
        refine jj_aload_n 3 dd_Mo_clearing_66 rfl ?_
        refine jj_iload_n 1 dd_Mo_clearing_67 rfl ?_
        refine jj_callV (ci := 7) [_] [] 0 0 dd_Mo_clearing_68 cs_Mo_121 ci_Mo_121 (hS.1.1 60 _ rfl) ⟨by decide, rfl⟩ rfl (Nat.le_of_ble_eq_true rfl) ⟨(Nat.le_of_ble_eq_true rfl), (Nat.le_of_ble_eq_true rfl)⟩ ⟨(Nat.le_of_ble_eq_true rfl), (Nat.le_of_ble_eq_true rfl)⟩ rfl (cs_use (cs_Mo_loose (i := p) (c := c) hp2 ho hc (fun M hS => ?_)) hS)
        refine jj_if_ne (tgt := 76) dd_Mo_clearing_71 (by decide) (fun h71 => ?_) (fun h71 => ?_)
        · skip
          refine jj_aload_n 3 dd_Mo_clearing_76 rfl ?_
          refine jj_iload_n 1 dd_Mo_clearing_77 rfl ?_
          refine jj_iload_n 2 dd_Mo_clearing_78 rfl ?_
          refine jj_callV (ci := 7) [_, _] [] 0 0 dd_Mo_clearing_79 cs_Mo_124 ci_Mo_124 (hS.1.1 60 _ rfl) ⟨by decide, rfl⟩ rfl (Nat.le_of_ble_eq_true rfl) ⟨(Nat.le_of_ble_eq_true rfl), (Nat.le_of_ble_eq_true rfl)⟩ ⟨(Nat.le_of_ble_eq_true rfl), (Nat.le_of_ble_eq_true rfl)⟩ rfl (cs_use (cs_Mo_voids (i := p) hp2 hr (by omega) (fun M hS => ?_)) hS)
          refine jj_if_ne (tgt := 87) dd_Mo_clearing_82 (by decide) (fun h82 => ?_) (fun h82 => ?_)
          · skip
            refine jj_iload_n 1 dd_Mo_clearing_87 rfl ?_
            refine jj_iload_n 4 dd_Mo_clearing_88 rfl ?_
            refine jj_icmp_ne (tgt := 94) dd_Mo_clearing_89 (by decide) (fun h89 => ?_) (fun h89 => ?_)
            · skip
              refine jj_aload_n 3 dd_Mo_clearing_94 rfl ?_
              refine jj_iload_n 4 dd_Mo_clearing_95 rfl ?_
              refine jj_iload_n 2 dd_Mo_clearing_96 rfl ?_
              refine jj_callV (ci := 7) [_, _] [] 0 0 dd_Mo_clearing_97 cs_Mo_124 ci_Mo_124 (hS.1.1 60 _ rfl) ⟨by decide, rfl⟩ rfl (Nat.le_of_ble_eq_true rfl) ⟨(Nat.le_of_ble_eq_true rfl), (Nat.le_of_ble_eq_true rfl)⟩ ⟨(Nat.le_of_ble_eq_true rfl), (Nat.le_of_ble_eq_true rfl)⟩ rfl (cs_use (cs_Mo_voids (i := i) hi (by first | exact hr | exact (vo_rec hr (by omega)).1) (by first | omega | exact Nat.lt_of_le_of_lt (vo_rec hr (by omega)).2 (by omega)) (fun M hS => ?_)) hS)
              refine jj_if_eq (tgt := 107) dd_Mo_clearing_100 (by decide) (fun h100 => ?_) (fun h100 => ?_)
              · skip
                refine jj_iconst (v := 0) dd_Mo_clearing_107 rfl ?_
                refine jj_iret dd_Mo_clearing_108 rfl rfl ?_
                rw [if_pos h22, if_pos h37, if_pos h63, if_neg h71, if_neg h82, if_neg h89, if_pos h100] at hQ
                exact ⟨_, hS, hQ⟩
              · skip
                refine jj_iconst (v := 3) dd_Mo_clearing_103 rfl ?_
                refine jj_goto (tgt := 108) dd_Mo_clearing_104 (by decide) ?_
                refine jj_iret dd_Mo_clearing_108 rfl rfl ?_
                rw [if_pos h22, if_pos h37, if_pos h63, if_neg h71, if_neg h82, if_neg h89, if_neg h100] at hQ
                exact ⟨_, hS, hQ⟩
            · skip
              refine jj_iconst (v := 3) dd_Mo_clearing_92 rfl ?_
              refine jj_iret dd_Mo_clearing_93 rfl rfl ?_
              rw [if_pos h22, if_pos h37, if_pos h63, if_neg h71, if_neg h82, if_pos h89] at hQ
              exact ⟨_, hS, hQ⟩
          · skip
            refine jj_iconst (v := 0) dd_Mo_clearing_85 rfl ?_
            refine jj_iret dd_Mo_clearing_86 rfl rfl ?_
            rw [if_pos h22, if_pos h37, if_pos h63, if_neg h71, if_pos h82] at hQ
            exact ⟨_, hS, hQ⟩
        · skip
          refine jj_iconst (v := 1) dd_Mo_clearing_74 rfl ?_
          refine jj_iret dd_Mo_clearing_75 rfl rfl ?_
          rw [if_pos h22, if_pos h37, if_pos h63, if_pos h71] at hQ
          exact ⟨_, hS, hQ⟩
    · skip
      refine jj_aload_n 3 dd_Mo_clearing_40 rfl ?_
      refine jj_iload_n 4 dd_Mo_clearing_41 rfl ?_
      refine jj_iload 0 dd_Mo_clearing_42 rfl ?_
      refine jj_callV (ci := 7) [_, _] [] 0 0 dd_Mo_clearing_44 cs_Mo_117 ci_Mo_117 (hS.1.1 60 _ rfl) ⟨by decide, rfl⟩ rfl (Nat.le_of_ble_eq_true rfl) ⟨(Nat.le_of_ble_eq_true rfl), (Nat.le_of_ble_eq_true rfl)⟩ ⟨(Nat.le_of_ble_eq_true rfl), (Nat.le_of_ble_eq_true rfl)⟩ rfl (cs_use (cs_Mo_done (i := i) hi hr (by omega) (fun M hS => ?_)) hS)
      refine jj_if_eq (tgt := 54) dd_Mo_clearing_47 (by decide) (fun h47 => ?_) (fun h47 => ?_)
      · skip
        refine jj_iconst (v := 0) dd_Mo_clearing_54 rfl ?_
        refine jj_iret dd_Mo_clearing_55 rfl rfl ?_
        rw [if_pos h22, if_neg h37, if_pos h47] at hQ
        exact ⟨_, hS, hQ⟩
      · skip
        refine jj_iconst (v := 2) dd_Mo_clearing_50 rfl ?_
        refine jj_goto (tgt := 55) dd_Mo_clearing_51 (by decide) ?_
        refine jj_iret dd_Mo_clearing_55 rfl rfl ?_
        rw [if_pos h22, if_neg h37, if_neg h47] at hQ
        exact ⟨_, hS, hQ⟩
  · skip
    refine jj_iconst (v := 0) dd_Mo_clearing_25 rfl ?_
    refine jj_iret dd_Mo_clearing_26 rfl rfl ?_
    rw [if_neg h22] at hQ
    exact ⟨_, hS, hQ⟩
def fi_go (F : Nat → Nat → Int32) (c : Nat) : Nat → Nat → Nat
  | 0, k => k
  | n + 1, k => if F 87 (12 * c + k) = 0 then fi_go F c n (k + 1) else k
def fi_ (F : Nat → Nat → Int32) (c : Nat) : Nat := fi_go F c 11 0
theorem fi_le (F : Nat → Nat → Int32) (c : Nat) : ∀ n k, fi_go F c n k ≤ k + n := by
  intro n
  induction n with
  | zero => intro k; exact Nat.le_refl _
  | succ n ih =>
    intro k
    unfold fi_go
    split
    · have := ih (k + 1)
      omega
    · omega
theorem mm_itle {c : Prop} [Decidable c] {a b m : Nat} (ha : a ≤ m) (hb : b ≤ m) : (if c then a else b) ≤ m := by
  by_cases h : c
  · rw [if_pos h]; exact ha
  · rw [if_neg h]; exact hb
def nx_go (F : Nat → Nat → Int32) (c : Nat) (b : Int32) (p : Nat) : Nat → Nat → Nat
  | 0, _ => 12
  | n + 1, k => if ¬ F 87 (12 * c + k) ≤ 0 ∧ (if b = 0 then F 89 (12 * c + k) = 0 else ¬ nI k = nI p ∧ F 90 (12 * c + k) = 0) then k else nx_go F c b p n (k + 1)
def nx_ (F : Nat → Nat → Int32) (c : Nat) (b : Int32) : Nat := nx_go F c b (fi_ F c) 12 0
theorem nx_le (F : Nat → Nat → Int32) (c : Nat) (b : Int32) (p : Nat) : ∀ n k, k + n ≤ 12 → nx_go F c b p n k ≤ 12 := by
  intro n
  induction n with
  | zero => intro k _; exact Nat.le_refl _
  | succ n ih =>
    intro k hk
    unfold nx_go
    exact mm_itle (by omega) (ih (k + 1) (by omega))
set_option maxRecDepth 20000 in
theorem cs_Mo_first {l : Launch} {g : Nat → Nat} {S : ss_} {Q : Option Value → ss_ → Prop} {c : Nat} (hc : c < 4) (hQ : Q (some (.int (nI (fi_ S.1 c)))) S) : cs_ l yy_Mo_first bb_Mo_first 3 (some .int) 0 0 0 g [.ref (g 60), .int (nI c)] S Q := by
  intro M hS
  refine ct_of (by decide) (Nat.le_of_ble_eq_true rfl) (fun G A => ?_)
  have loop : ∀ (n k : Nat), k + n = 11 → Q (some (.int (nI (fi_go S.1 c n k)))) S → jj_ l yy_Mo_first bb_Mo_first 3 (some .int) G (mm_R 0 0 0) A (mm_ret (qs_ g Q)) 0 0 2 [(2, .int (nI (k))), (0, .ref (g 60)), (1, .int (nI (c)))] [] M := by
    intro n
    induction n with
    | zero =>
      intro k  hk hq
      have hk : k = 11 := by omega
      subst hk
      refine jj_iload_n 0 dd_Mo_first_2 rfl ?_
      refine jj_bipush (v := 11) dd_Mo_first_3 rfl ?_
      refine jj_icmp_ge (tgt := 28) dd_Mo_first_5 (by decide) (fun h5 => ?_) (fun h5 => ?_)
      · skip
        refine jj_iload_n 0 dd_Mo_first_28 rfl ?_
        refine jj_iret dd_Mo_first_29 rfl rfl ?_
        exact ⟨_, hS, hq⟩
      · exact absurd (by decide) h5
    | succ n ih =>
      intro k  hk hq
      refine jj_iload_n 0 dd_Mo_first_2 rfl ?_
      refine jj_bipush (v := 11) dd_Mo_first_3 rfl ?_
      refine jj_icmp_ge (tgt := 28) dd_Mo_first_5 (by decide) (fun h5 => ?_) (fun h5 => ?_)
      · exact absurd h5 (nI_ge (b := 11) (by omega) (by decide))
      · skip
        refine jj_aload_n 1 dd_Mo_first_8 rfl ?_
        refine jj_rS (n := 87) hS dd_Mo_first_9 ff_Mo_78 rfl (fun _ => rfl) rfl ?_
        refine jj_bipush (v := 12) dd_Mo_first_12 rfl ?_
        refine jj_iload_n 2 dd_Mo_first_14 rfl ?_
        refine jj_imul dd_Mo_first_15 ?_
        refine jj_ti (x' := nI (12 * c)) (pk_mul (12) (c)) ?_
        refine jj_iload_n 0 dd_Mo_first_16 rfl ?_
        refine jj_iadd dd_Mo_first_17 ?_
        refine jj_ti (x' := nI ((12 * c) + (k))) (nI_add (12 * c) (k)) ?_
        refine jj_aS hS dd_Mo_first_18 rfl (vp_in_nI (n := (12 * c) + (k)) (by omega) (by decide)) ((12 * c) + (k)) (nI_clamp (n := (12 * c) + (k)) (by omega)) ?_
        refine jj_if_ne (tgt := 28) dd_Mo_first_19 (by decide) (fun h19 => ?_) (fun h19 => ?_)
        · skip
          refine jj_iload_n 0 dd_Mo_first_28 rfl ?_
          refine jj_iret dd_Mo_first_29 rfl rfl ?_
          exact ⟨_, hS, by simpa [fi_go, h5, h19] using hq⟩
        · skip
          refine jj_iinc 0 (lv' := [(2, .int (nI (k + 1))), (0, .ref (g 60)), (1, .int (nI (c)))]) dd_Mo_first_22 rfl (nI_1 k) (Nat.le_of_ble_eq_true rfl) rfl ?_
          refine jj_goto (tgt := 2) dd_Mo_first_25 (by decide) ?_
          exact ih _ (by omega) (by simpa [fi_go, h5, h19] using hq)
  refine jj_iconst (v := 0) dd_Mo_first_0 rfl ?_
  refine jj_istore_n (lv' := [(2, .int (0)), (0, .ref (g 60)), (1, .int (nI (c)))]) dd_Mo_first_1 (Nat.le_of_ble_eq_true rfl) rfl ?_
  exact loop 11 0 (by omega) hQ
set_option maxRecDepth 20000 in
theorem cs_Mo_nextCell {l : Launch} {g : Nat → Nat} {S : ss_} {Q : Option Value → ss_ → Prop} {c : Nat} {b : Int32} (hc : c < 4) (hQ : Q (some (.int (nI (nx_ S.1 c b)))) S) : cs_ l yy_Mo_nextCell bb_Mo_nextCell 7 (some .int) 1 0 0 g [.ref (g 60), .int (nI c), .int b] S Q := by
  intro M hS
  refine ct_of (by decide) (Nat.le_of_ble_eq_true rfl) (fun G A => ?_)
  have hfi : fi_ S.1 c ≤ 11 := fi_le S.1 c 11 0
  have loop : ∀ (n k : Nat) (M : mm_M), k + n = 12 → rp_ g M S → Q (some (.int (nI (nx_go S.1 c b (fi_ S.1 c) n k)))) S → jj_ l yy_Mo_nextCell bb_Mo_nextCell 7 (some .int) G (mm_R 1 0 0) A (mm_ret (qs_ g Q)) 0 0 9 [(4, .int (nI (k))), (3, .int (nI (fi_ S.1 c))), (0, .ref (g 60)), (1, .int (nI (c))), (2, .int (b))] [] M := by
    intro n
    induction n with
    | zero =>
      intro k M hk hS hq
      have hk : k = 12 := by omega
      subst hk
      refine jj_iload 0 dd_Mo_nextCell_9 rfl ?_
      refine jj_bipush (v := 12) dd_Mo_nextCell_11 rfl ?_
      refine jj_icmp_ge (tgt := 94) dd_Mo_nextCell_13 (by decide) (fun h13 => ?_) (fun h13 => ?_)
      · skip
        refine jj_bipush (v := 12) dd_Mo_nextCell_94 rfl ?_
        refine jj_iret dd_Mo_nextCell_96 rfl rfl ?_
        exact ⟨_, hS, hq⟩
      · exact absurd (by decide) h13
    | succ n ih =>
      intro k M hk hS hq
      refine jj_iload 0 dd_Mo_nextCell_9 rfl ?_
      refine jj_bipush (v := 12) dd_Mo_nextCell_11 rfl ?_
      refine jj_icmp_ge (tgt := 94) dd_Mo_nextCell_13 (by decide) (fun h13 => ?_) (fun h13 => ?_)
      · exact absurd h13 (nI_ge (b := 12) (by omega) (by decide))
      · skip
        refine jj_bipush (v := 12) dd_Mo_nextCell_16 rfl ?_
        refine jj_iload_n 3 dd_Mo_nextCell_18 rfl ?_
        refine jj_imul dd_Mo_nextCell_19 ?_
        refine jj_ti (x' := nI (12 * c)) (pk_mul (12) (c)) ?_
        refine jj_iload 0 dd_Mo_nextCell_20 rfl ?_
        refine jj_iadd dd_Mo_nextCell_22 ?_
        refine jj_ti (x' := nI ((12 * c) + (k))) (nI_add (12 * c) (k)) ?_
        refine jj_istore (lv' := [(5, .int (nI ((12 * c) + (k)))), (4, .int (nI (k))), (3, .int (nI (fi_ S.1 c))), (0, .ref (g 60)), (1, .int (nI (c))), (2, .int (b))]) dd_Mo_nextCell_23 (Nat.le_of_ble_eq_true rfl) rfl ?_
        refine jj_iload_n 5 dd_Mo_nextCell_25 rfl ?_
        refine jj_if_eq (tgt := 53) dd_Mo_nextCell_26 (by decide) (fun h26 => ?_) (fun h26 => ?_)
        · skip
          refine jj_aload_n 3 dd_Mo_nextCell_53 rfl ?_
          refine jj_rS (n := 89) hS dd_Mo_nextCell_54 ff_Mo_84 rfl (fun _ => rfl) rfl ?_
          refine jj_iload 0 dd_Mo_nextCell_57 rfl ?_
          refine jj_zS hS dd_Mo_nextCell_59 rfl (vp_in_nI (n := (12 * c) + (k)) (by omega) (by decide)) ((12 * c) + (k)) (nI_clamp (n := (12 * c) + (k)) (by omega)) ?_
          refine jj_if_ne (tgt := 67) dd_Mo_nextCell_60 (by decide) (fun h60 => ?_) (fun h60 => ?_)
          · skip
            refine jj_iconst (v := 0) dd_Mo_nextCell_67 rfl ?_
            refine jj_istore (lv' := [(6, .int (0)), (5, .int (nI ((12 * c) + (k)))), (4, .int (nI (k))), (3, .int (nI (fi_ S.1 c))), (0, .ref (g 60)), (1, .int (nI (c))), (2, .int (b))]) dd_Mo_nextCell_68 (Nat.le_of_ble_eq_true rfl) rfl ?_
            refine jj_aload_n 4 dd_Mo_nextCell_70 rfl ?_
            refine jj_rS (n := 87) hS dd_Mo_nextCell_71 ff_Mo_78 rfl (fun _ => rfl) rfl ?_
            refine jj_iload 1 dd_Mo_nextCell_74 rfl ?_
            refine jj_aS hS dd_Mo_nextCell_76 rfl (vp_in_nI (n := (12 * c) + (k)) (by omega) (by decide)) ((12 * c) + (k)) (nI_clamp (n := (12 * c) + (k)) (by omega)) ?_
            refine jj_if_le (tgt := 88) dd_Mo_nextCell_77 (by decide) (fun h77 => ?_) (fun h77 => ?_)
            · skip
              refine jj_iinc 2 (lv' := [(4, .int (nI (k + 1))), (6, .int (0)), (5, .int (nI ((12 * c) + (k)))), (3, .int (nI (fi_ S.1 c))), (0, .ref (g 60)), (1, .int (nI (c))), (2, .int (b))]) dd_Mo_nextCell_88 rfl (nI_1 k) (Nat.le_of_ble_eq_true rfl) rfl ?_
              refine jj_goto (tgt := 9) dd_Mo_nextCell_91 (by decide) ?_
              refine jj_sub [0, 3, 4, 5, 6] rfl ?_
              exact ih _ _ (by omega) hS (by simpa [nx_go, -Int32.not_lt, -Int32.not_le, h13, h26, h60, h77] using hq)
            · skip
              refine jj_iload 0 dd_Mo_nextCell_80 rfl ?_
              refine jj_if_eq (tgt := 88) dd_Mo_nextCell_82 (by decide) (fun _ => ?_) (fun h => absurd h (by decide))
              refine jj_iinc 2 (lv' := [(4, .int (nI (k + 1))), (6, .int (0)), (5, .int (nI ((12 * c) + (k)))), (3, .int (nI (fi_ S.1 c))), (0, .ref (g 60)), (1, .int (nI (c))), (2, .int (b))]) dd_Mo_nextCell_88 rfl (nI_1 k) (Nat.le_of_ble_eq_true rfl) rfl ?_
              refine jj_goto (tgt := 9) dd_Mo_nextCell_91 (by decide) ?_
              refine jj_sub [0, 3, 4, 5, 6] rfl ?_
              exact ih _ _ (by omega) hS (by simpa [nx_go, -Int32.not_lt, -Int32.not_le, h13, h26, h60, h77] using hq)
          · skip
            refine jj_iconst (v := 1) dd_Mo_nextCell_63 rfl ?_
            refine jj_goto (tgt := 68) dd_Mo_nextCell_64 (by decide) ?_
            refine jj_istore (lv' := [(6, .int (1)), (5, .int (nI ((12 * c) + (k)))), (4, .int (nI (k))), (3, .int (nI (fi_ S.1 c))), (0, .ref (g 60)), (1, .int (nI (c))), (2, .int (b))]) dd_Mo_nextCell_68 (Nat.le_of_ble_eq_true rfl) rfl ?_
            refine jj_aload_n 4 dd_Mo_nextCell_70 rfl ?_
            refine jj_rS (n := 87) hS dd_Mo_nextCell_71 ff_Mo_78 rfl (fun _ => rfl) rfl ?_
            refine jj_iload 1 dd_Mo_nextCell_74 rfl ?_
            refine jj_aS hS dd_Mo_nextCell_76 rfl (vp_in_nI (n := (12 * c) + (k)) (by omega) (by decide)) ((12 * c) + (k)) (nI_clamp (n := (12 * c) + (k)) (by omega)) ?_
            refine jj_if_le (tgt := 88) dd_Mo_nextCell_77 (by decide) (fun h77 => ?_) (fun h77 => ?_)
            · skip
              refine jj_iinc 2 (lv' := [(4, .int (nI (k + 1))), (6, .int (1)), (5, .int (nI ((12 * c) + (k)))), (3, .int (nI (fi_ S.1 c))), (0, .ref (g 60)), (1, .int (nI (c))), (2, .int (b))]) dd_Mo_nextCell_88 rfl (nI_1 k) (Nat.le_of_ble_eq_true rfl) rfl ?_
              refine jj_goto (tgt := 9) dd_Mo_nextCell_91 (by decide) ?_
              refine jj_sub [0, 3, 4, 5, 6] rfl ?_
              exact ih _ _ (by omega) hS (by simpa [nx_go, -Int32.not_lt, -Int32.not_le, h13, h26, h60, h77] using hq)
            · skip
              refine jj_iload 0 dd_Mo_nextCell_80 rfl ?_
              refine jj_if_eq (tgt := 88) dd_Mo_nextCell_82 (by decide) (fun h => absurd h (by decide)) (fun _ => ?_)
              refine jj_iload 2 dd_Mo_nextCell_85 rfl ?_
              refine jj_iret dd_Mo_nextCell_87 rfl rfl ?_
              exact ⟨_, hS, by simpa [nx_go, -Int32.not_lt, -Int32.not_le, h13, h26, h60, h77] using hq⟩
        · skip
          refine jj_iload 1 dd_Mo_nextCell_29 rfl ?_
          refine jj_iload_n 2 dd_Mo_nextCell_31 rfl ?_
          refine jj_icmp_eq (tgt := 49) dd_Mo_nextCell_32 (by decide) (fun h32 => ?_) (fun h32 => ?_)
          · skip
            refine jj_iconst (v := 0) dd_Mo_nextCell_49 rfl ?_
            refine jj_goto (tgt := 68) dd_Mo_nextCell_50 (by decide) ?_
            refine jj_istore (lv' := [(6, .int (0)), (5, .int (nI ((12 * c) + (k)))), (4, .int (nI (k))), (3, .int (nI (fi_ S.1 c))), (0, .ref (g 60)), (1, .int (nI (c))), (2, .int (b))]) dd_Mo_nextCell_68 (Nat.le_of_ble_eq_true rfl) rfl ?_
            refine jj_aload_n 4 dd_Mo_nextCell_70 rfl ?_
            refine jj_rS (n := 87) hS dd_Mo_nextCell_71 ff_Mo_78 rfl (fun _ => rfl) rfl ?_
            refine jj_iload 1 dd_Mo_nextCell_74 rfl ?_
            refine jj_aS hS dd_Mo_nextCell_76 rfl (vp_in_nI (n := (12 * c) + (k)) (by omega) (by decide)) ((12 * c) + (k)) (nI_clamp (n := (12 * c) + (k)) (by omega)) ?_
            refine jj_if_le (tgt := 88) dd_Mo_nextCell_77 (by decide) (fun h77 => ?_) (fun h77 => ?_)
            · skip
              refine jj_iinc 2 (lv' := [(4, .int (nI (k + 1))), (6, .int (0)), (5, .int (nI ((12 * c) + (k)))), (3, .int (nI (fi_ S.1 c))), (0, .ref (g 60)), (1, .int (nI (c))), (2, .int (b))]) dd_Mo_nextCell_88 rfl (nI_1 k) (Nat.le_of_ble_eq_true rfl) rfl ?_
              refine jj_goto (tgt := 9) dd_Mo_nextCell_91 (by decide) ?_
              refine jj_sub [0, 3, 4, 5, 6] rfl ?_
              exact ih _ _ (by omega) hS (by simpa [nx_go, -Int32.not_lt, -Int32.not_le, h13, h26, h32, h77] using hq)
            · skip
              refine jj_iload 0 dd_Mo_nextCell_80 rfl ?_
              refine jj_if_eq (tgt := 88) dd_Mo_nextCell_82 (by decide) (fun _ => ?_) (fun h => absurd h (by decide))
              refine jj_iinc 2 (lv' := [(4, .int (nI (k + 1))), (6, .int (0)), (5, .int (nI ((12 * c) + (k)))), (3, .int (nI (fi_ S.1 c))), (0, .ref (g 60)), (1, .int (nI (c))), (2, .int (b))]) dd_Mo_nextCell_88 rfl (nI_1 k) (Nat.le_of_ble_eq_true rfl) rfl ?_
              refine jj_goto (tgt := 9) dd_Mo_nextCell_91 (by decide) ?_
              refine jj_sub [0, 3, 4, 5, 6] rfl ?_
              exact ih _ _ (by omega) hS (by simpa [nx_go, -Int32.not_lt, -Int32.not_le, h13, h26, h32, h77] using hq)
          · skip
            refine jj_aload_n 3 dd_Mo_nextCell_35 rfl ?_
            refine jj_rS (n := 90) hS dd_Mo_nextCell_36 ff_Mo_87 rfl (fun _ => rfl) rfl ?_
            refine jj_iload 0 dd_Mo_nextCell_39 rfl ?_
            refine jj_zS hS dd_Mo_nextCell_41 rfl (vp_in_nI (n := (12 * c) + (k)) (by omega) (by decide)) ((12 * c) + (k)) (nI_clamp (n := (12 * c) + (k)) (by omega)) ?_
            refine jj_if_ne (tgt := 49) dd_Mo_nextCell_42 (by decide) (fun h42 => ?_) (fun h42 => ?_)
            · skip
              refine jj_iconst (v := 0) dd_Mo_nextCell_49 rfl ?_
              refine jj_goto (tgt := 68) dd_Mo_nextCell_50 (by decide) ?_
              refine jj_istore (lv' := [(6, .int (0)), (5, .int (nI ((12 * c) + (k)))), (4, .int (nI (k))), (3, .int (nI (fi_ S.1 c))), (0, .ref (g 60)), (1, .int (nI (c))), (2, .int (b))]) dd_Mo_nextCell_68 (Nat.le_of_ble_eq_true rfl) rfl ?_
              refine jj_aload_n 4 dd_Mo_nextCell_70 rfl ?_
              refine jj_rS (n := 87) hS dd_Mo_nextCell_71 ff_Mo_78 rfl (fun _ => rfl) rfl ?_
              refine jj_iload 1 dd_Mo_nextCell_74 rfl ?_
              refine jj_aS hS dd_Mo_nextCell_76 rfl (vp_in_nI (n := (12 * c) + (k)) (by omega) (by decide)) ((12 * c) + (k)) (nI_clamp (n := (12 * c) + (k)) (by omega)) ?_
              refine jj_if_le (tgt := 88) dd_Mo_nextCell_77 (by decide) (fun h77 => ?_) (fun h77 => ?_)
              · skip
                refine jj_iinc 2 (lv' := [(4, .int (nI (k + 1))), (6, .int (0)), (5, .int (nI ((12 * c) + (k)))), (3, .int (nI (fi_ S.1 c))), (0, .ref (g 60)), (1, .int (nI (c))), (2, .int (b))]) dd_Mo_nextCell_88 rfl (nI_1 k) (Nat.le_of_ble_eq_true rfl) rfl ?_
                refine jj_goto (tgt := 9) dd_Mo_nextCell_91 (by decide) ?_
                refine jj_sub [0, 3, 4, 5, 6] rfl ?_
                exact ih _ _ (by omega) hS (by simpa [nx_go, -Int32.not_lt, -Int32.not_le, h13, h26, h32, h42, h77] using hq)
              · skip
                refine jj_iload 0 dd_Mo_nextCell_80 rfl ?_
                refine jj_if_eq (tgt := 88) dd_Mo_nextCell_82 (by decide) (fun _ => ?_) (fun h => absurd h (by decide))
                refine jj_iinc 2 (lv' := [(4, .int (nI (k + 1))), (6, .int (0)), (5, .int (nI ((12 * c) + (k)))), (3, .int (nI (fi_ S.1 c))), (0, .ref (g 60)), (1, .int (nI (c))), (2, .int (b))]) dd_Mo_nextCell_88 rfl (nI_1 k) (Nat.le_of_ble_eq_true rfl) rfl ?_
                refine jj_goto (tgt := 9) dd_Mo_nextCell_91 (by decide) ?_
                refine jj_sub [0, 3, 4, 5, 6] rfl ?_
                exact ih _ _ (by omega) hS (by simpa [nx_go, -Int32.not_lt, -Int32.not_le, h13, h26, h32, h42, h77] using hq)
            · skip
              refine jj_iconst (v := 1) dd_Mo_nextCell_45 rfl ?_
              refine jj_goto (tgt := 68) dd_Mo_nextCell_46 (by decide) ?_
              refine jj_istore (lv' := [(6, .int (1)), (5, .int (nI ((12 * c) + (k)))), (4, .int (nI (k))), (3, .int (nI (fi_ S.1 c))), (0, .ref (g 60)), (1, .int (nI (c))), (2, .int (b))]) dd_Mo_nextCell_68 (Nat.le_of_ble_eq_true rfl) rfl ?_
              refine jj_aload_n 4 dd_Mo_nextCell_70 rfl ?_
              refine jj_rS (n := 87) hS dd_Mo_nextCell_71 ff_Mo_78 rfl (fun _ => rfl) rfl ?_
              refine jj_iload 1 dd_Mo_nextCell_74 rfl ?_
              refine jj_aS hS dd_Mo_nextCell_76 rfl (vp_in_nI (n := (12 * c) + (k)) (by omega) (by decide)) ((12 * c) + (k)) (nI_clamp (n := (12 * c) + (k)) (by omega)) ?_
              refine jj_if_le (tgt := 88) dd_Mo_nextCell_77 (by decide) (fun h77 => ?_) (fun h77 => ?_)
              · skip
                refine jj_iinc 2 (lv' := [(4, .int (nI (k + 1))), (6, .int (1)), (5, .int (nI ((12 * c) + (k)))), (3, .int (nI (fi_ S.1 c))), (0, .ref (g 60)), (1, .int (nI (c))), (2, .int (b))]) dd_Mo_nextCell_88 rfl (nI_1 k) (Nat.le_of_ble_eq_true rfl) rfl ?_
                refine jj_goto (tgt := 9) dd_Mo_nextCell_91 (by decide) ?_
                refine jj_sub [0, 3, 4, 5, 6] rfl ?_
                exact ih _ _ (by omega) hS (by simpa [nx_go, -Int32.not_lt, -Int32.not_le, h13, h26, h32, h42, h77] using hq)
              · skip
                refine jj_iload 0 dd_Mo_nextCell_80 rfl ?_
                refine jj_if_eq (tgt := 88) dd_Mo_nextCell_82 (by decide) (fun h => absurd h (by decide)) (fun _ => ?_)
                refine jj_iload 2 dd_Mo_nextCell_85 rfl ?_
                refine jj_iret dd_Mo_nextCell_87 rfl rfl ?_
                exact ⟨_, hS, by simpa [nx_go, -Int32.not_lt, -Int32.not_le, h13, h26, h32, h42, h77] using hq⟩
  refine jj_aload_n 0 dd_Mo_nextCell_0 rfl ?_
  refine jj_iload_n 1 dd_Mo_nextCell_1 rfl ?_
  refine jj_callV (ci := 7) [_] [] 0 0 dd_Mo_nextCell_2 cs_Mo_155 ci_Mo_155 (hS.1.1 60 _ rfl) ⟨by decide, rfl⟩ rfl (Nat.le_of_ble_eq_true rfl) ⟨(Nat.le_of_ble_eq_true rfl), (Nat.le_of_ble_eq_true rfl)⟩ ⟨(Nat.le_of_ble_eq_true rfl), (Nat.le_of_ble_eq_true rfl)⟩ rfl (cs_use (cs_Mo_first (c := c) hc (fun M hS => ?_)) hS)
  refine jj_istore_n (lv' := [(3, .int (nI (fi_ S.1 c))), (0, .ref (g 60)), (1, .int (nI (c))), (2, .int (b))]) dd_Mo_nextCell_5 (Nat.le_of_ble_eq_true rfl) rfl ?_
  refine jj_iconst (v := 0) dd_Mo_nextCell_6 rfl ?_
  refine jj_istore (lv' := [(4, .int (0)), (3, .int (nI (fi_ S.1 c))), (0, .ref (g 60)), (1, .int (nI (c))), (2, .int (b))]) dd_Mo_nextCell_7 (Nat.le_of_ble_eq_true rfl) rfl ?_
  exact loop 12 0 M (by omega) hS hQ
