def si_go (c w z : Int32) : Nat → Nat → (Nat → Nat → Int32) → (Nat → Nat → Int32)
  | 0, _, F => F
  | n + 1, k, F => si_go c w z n (k + 1) (if F 72 k = c then (if w ≤ F 73 k then F else if nI k = z then F else uf_ F 75 k 0) else F)
theorem si_oth (c w z : Int32) : ∀ (n k : Nat) (F : Nat → Nat → Int32) (a j : Nat), a ≠ 75 → si_go c w z n k F a j = F a j := by
  intro n
  induction n with
  | zero => intro k F a j _; rfl
  | succ n ih =>
    intro k F a j ha
    unfold si_go
    rw [ih _ _ _ _ ha]
    split
    · split
      · rfl
      · split
        · rfl
        · rw [uf_at, if_neg (fun h => ha h.1)]
    · rfl
def sz_ (F : Nat → Nat → Int32) (c w : Int32) : Int32 := if la_ F c w < 0 then la_ F c w else if F 75 (la_ F c w).toNatClampNeg = 2 then -1 else la_ F c w
def so_go (t : Nat) (w : Int32) : Nat → Nat → (Nat → Nat → Int32) → (Nat → Nat → Int32)
  | 0, _, F => F
  | n + 1, k, F => so_go t w n (k + 1) (si_go (nI (4 * t + k)) w (sz_ F (nI (4 * t + k)) w) (rec_ F) 0 F)
theorem so_oth (t : Nat) (w : Int32) : ∀ (n k : Nat) (F : Nat → Nat → Int32) (a j : Nat), a ≠ 75 → so_go t w n k F a j = F a j := by
  intro n
  induction n with
  | zero => intro k F a j _; rfl
  | succ n ih =>
    intro k F a j ha
    unfold so_go
    rw [ih _ _ _ _ ha, si_oth _ _ _ _ _ _ _ _ ha]
def st_F (F : Nat → Nat → Int32) (t : Nat) (w : Int32) : Nat → Nat → Int32 := so_go t w 4 0 (uf_ F 78 t w)
set_option maxRecDepth 20000 in
theorem cs_Mo_sweepTablet {l : Launch} {g : Nat → Nat} {S : ss_} {Q : Option Value → ss_ → Prop} {t : Nat} {w : Int32} (ht : t < 3) (hr2 : rec_ S.1 ≤ 1540) (hr : S.1 60 11 = nI (rec_ S.1)) (hQ : Q none (st_F S.1 t w, S.2)) : cs_ l yy_Mo_sweepTablet bb_Mo_sweepTablet 6 none 1 0 0 g [.ref (g 60), .int (nI t), .int w] S Q := by
  intro M hS
  refine ct_of (by decide) (Nat.le_of_ble_eq_true rfl) (fun G A => ?_)
  have inner : ∀ (n k i r : Nat) (z : Int32) (F : Nat → Nat → Int32) (M : mm_M), k + n = r → r ≤ 1540 → F 60 11 = nI r → rp_ g M (F, S.2) → (∀ M, rp_ g M (si_go (nI i) w z n k F, S.2) → jj_ l yy_Mo_sweepTablet bb_Mo_sweepTablet 6 none G (mm_R 1 0 0) A (mm_ret (qs_ g Q)) 0 0 107 [(5, .int (nI (r))), (4, .int (z)), (3, .int (nI (i))), (0, .ref (g 60)), (1, .int (nI (t))), (2, .int (w))] [] M) → jj_ l yy_Mo_sweepTablet bb_Mo_sweepTablet 6 none G (mm_R 1 0 0) A (mm_ret (qs_ g Q)) 0 0 55 [(5, .int (nI (k))), (4, .int (z)), (3, .int (nI (i))), (0, .ref (g 60)), (1, .int (nI (t))), (2, .int (w))] [] M := by
    intro n
    induction n with
    | zero =>
      intro k i r z F M hk hr2 hr hS hQ
      have hk : k = r := by omega
      subst hk
      refine jj_iload 0 dd_Mo_sweepTablet_55 rfl ?_
      refine jj_aload_n 3 dd_Mo_sweepTablet_57 rfl ?_
      refine jj_gS hS dd_Mo_sweepTablet_58 ff_Mo_99 rfl (fun _ => rfl) ?_
      refine jj_ti (x' := nI (k)) hr ?_
      refine jj_icmp_ge (tgt := 107) dd_Mo_sweepTablet_61 (by decide) (fun h61 => ?_) (fun h61 => ?_)
      · skip
        exact hQ _ hS
      · exact absurd (mm_rfl _) h61
    | succ n ih =>
      intro k i r z F M hk hr2 hr hS hQ
      refine jj_iload 0 dd_Mo_sweepTablet_55 rfl ?_
      refine jj_aload_n 3 dd_Mo_sweepTablet_57 rfl ?_
      refine jj_gS hS dd_Mo_sweepTablet_58 ff_Mo_99 rfl (fun _ => rfl) ?_
      refine jj_ti (x' := nI (r)) hr ?_
      refine jj_icmp_ge (tgt := 107) dd_Mo_sweepTablet_61 (by decide) (fun h61 => ?_) (fun h61 => ?_)
      · exact absurd h61 (nI_ge (by omega) (by omega))
      · skip
        refine jj_aload_n 3 dd_Mo_sweepTablet_64 rfl ?_
        refine jj_rS (n := 72) hS dd_Mo_sweepTablet_65 ff_Mo_32 rfl (fun _ => rfl) rfl ?_
        refine jj_iload 0 dd_Mo_sweepTablet_68 rfl ?_
        refine jj_aS hS dd_Mo_sweepTablet_70 rfl (vp_in_nI (n := k) (by omega) (by decide)) (k) (nI_clamp (n := k) (by omega)) ?_
        refine jj_iload_n 2 dd_Mo_sweepTablet_71 rfl ?_
        refine jj_icmp_ne (tgt := 101) dd_Mo_sweepTablet_72 (by decide) (fun h72 => ?_) (fun h72 => ?_)
        · skip
          refine jj_iinc 0 (lv' := [(5, .int (nI (k + 1))), (4, .int (z)), (3, .int (nI (i))), (0, .ref (g 60)), (1, .int (nI (t))), (2, .int (w))]) dd_Mo_sweepTablet_101 rfl (nI_1 k) (Nat.le_of_ble_eq_true rfl) rfl ?_
          refine jj_goto (tgt := 55) dd_Mo_sweepTablet_104 (by decide) ?_
          unfold si_go at hQ
          rw [if_neg h72] at hQ
          exact ih _ _ _ _ _ _ (by omega) hr2 (by first | exact hr | (show uf_ F 75 k 0 60 11 = nI r; simpa [uf_at] using hr)) hS hQ
        · skip
          refine jj_aload_n 3 dd_Mo_sweepTablet_75 rfl ?_
          refine jj_rS (n := 73) hS dd_Mo_sweepTablet_76 ff_Mo_35 rfl (fun _ => rfl) rfl ?_
          refine jj_iload 0 dd_Mo_sweepTablet_79 rfl ?_
          refine jj_aS hS dd_Mo_sweepTablet_81 rfl (vp_in_nI (n := k) (by omega) (by decide)) (k) (nI_clamp (n := k) (by omega)) ?_
          refine jj_iload_n 5 dd_Mo_sweepTablet_82 rfl ?_
          refine jj_icmp_ge (tgt := 101) dd_Mo_sweepTablet_83 (by decide) (fun h83 => ?_) (fun h83 => ?_)
          · skip
            refine jj_iinc 0 (lv' := [(5, .int (nI (k + 1))), (4, .int (z)), (3, .int (nI (i))), (0, .ref (g 60)), (1, .int (nI (t))), (2, .int (w))]) dd_Mo_sweepTablet_101 rfl (nI_1 k) (Nat.le_of_ble_eq_true rfl) rfl ?_
            refine jj_goto (tgt := 55) dd_Mo_sweepTablet_104 (by decide) ?_
            unfold si_go at hQ
            rw [if_pos h72, if_pos h83] at hQ
            exact ih _ _ _ _ _ _ (by omega) hr2 (by first | exact hr | (show uf_ F 75 k 0 60 11 = nI r; simpa [uf_at] using hr)) hS hQ
          · skip
            refine jj_iload 0 dd_Mo_sweepTablet_86 rfl ?_
            refine jj_iload 1 dd_Mo_sweepTablet_88 rfl ?_
            refine jj_icmp_eq (tgt := 101) dd_Mo_sweepTablet_90 (by decide) (fun h90 => ?_) (fun h90 => ?_)
            · skip
              refine jj_iinc 0 (lv' := [(5, .int (nI (k + 1))), (4, .int (z)), (3, .int (nI (i))), (0, .ref (g 60)), (1, .int (nI (t))), (2, .int (w))]) dd_Mo_sweepTablet_101 rfl (nI_1 k) (Nat.le_of_ble_eq_true rfl) rfl ?_
              refine jj_goto (tgt := 55) dd_Mo_sweepTablet_104 (by decide) ?_
              unfold si_go at hQ
              rw [if_pos h72, if_neg h83, if_pos h90] at hQ
              exact ih _ _ _ _ _ _ (by omega) hr2 (by first | exact hr | (show uf_ F 75 k 0 60 11 = nI r; simpa [uf_at] using hr)) hS hQ
            · skip
              refine jj_aload_n 3 dd_Mo_sweepTablet_93 rfl ?_
              refine jj_rS (n := 75) hS dd_Mo_sweepTablet_94 ff_Mo_41 rfl (fun _ => rfl) rfl ?_
              refine jj_iload 0 dd_Mo_sweepTablet_97 rfl ?_
              refine jj_iconst (v := 0) dd_Mo_sweepTablet_99 rfl ?_
              refine jj_asS hS dd_Mo_sweepTablet_100 rfl (vp_in_nI (n := k) (by omega) (by decide)) (k) (nI_clamp (n := k) (by omega)) (fun M hS => ?_)
              refine jj_iinc 0 (lv' := [(5, .int (nI (k + 1))), (4, .int (z)), (3, .int (nI (i))), (0, .ref (g 60)), (1, .int (nI (t))), (2, .int (w))]) dd_Mo_sweepTablet_101 rfl (nI_1 k) (Nat.le_of_ble_eq_true rfl) rfl ?_
              refine jj_goto (tgt := 55) dd_Mo_sweepTablet_104 (by decide) ?_
              unfold si_go at hQ
              rw [if_pos h72, if_neg h83, if_neg h90] at hQ
              exact ih _ _ _ _ _ _ (by omega) hr2 (by first | exact hr | (show uf_ F 75 k 0 60 11 = nI r; simpa [uf_at] using hr)) hS hQ
  have loop : ∀ (n k : Nat) (F : Nat → Nat → Int32) (M : mm_M), k + n = 4 → rec_ F ≤ 1540 → F 60 11 = nI (rec_ F) → rp_ g M (F, S.2) → Q none (so_go t w n k F, S.2) → jj_ l yy_Mo_sweepTablet bb_Mo_sweepTablet 6 none G (mm_R 1 0 0) A (mm_ret (qs_ g Q)) 0 0 11 [(3, .int (nI (4 * t + k))), (0, .ref (g 60)), (1, .int (nI (t))), (2, .int (w))] [] M := by
    intro n
    induction n with
    | zero =>
      intro k F M hk hr2 hr hS hQ
      have hk : k = 4 := by omega
      subst hk
      refine jj_iload_n 0 dd_Mo_sweepTablet_11 rfl ?_
      refine jj_iconst (v := 4) dd_Mo_sweepTablet_12 rfl ?_
      refine jj_iload_n 2 dd_Mo_sweepTablet_13 rfl ?_
      refine jj_imul dd_Mo_sweepTablet_14 ?_
      refine jj_ti (x' := nI (4 * t)) (pk_mul (4) (t)) ?_
      refine jj_iconst (v := 4) dd_Mo_sweepTablet_15 rfl ?_
      refine jj_iadd dd_Mo_sweepTablet_16 ?_
      refine jj_ti (x' := nI ((4 * t) + (4))) (nI_add (4 * t) (4)) ?_
      refine jj_icmp_ge (tgt := 113) dd_Mo_sweepTablet_17 (by decide) (fun h17 => ?_) (fun h17 => ?_)
      · skip
        refine jj_vret dd_Mo_sweepTablet_113 rfl ?_
        exact ⟨_, hS, hQ⟩
      · exact absurd (mm_rfl _) h17
    | succ n ih =>
      intro k F M hk hr2 hr hS hQ
      refine jj_iload_n 0 dd_Mo_sweepTablet_11 rfl ?_
      refine jj_iconst (v := 4) dd_Mo_sweepTablet_12 rfl ?_
      refine jj_iload_n 2 dd_Mo_sweepTablet_13 rfl ?_
      refine jj_imul dd_Mo_sweepTablet_14 ?_
      refine jj_ti (x' := nI (4 * t)) (pk_mul (4) (t)) ?_
      refine jj_iconst (v := 4) dd_Mo_sweepTablet_15 rfl ?_
      refine jj_iadd dd_Mo_sweepTablet_16 ?_
      refine jj_ti (x' := nI ((4 * t) + (4))) (nI_add (4 * t) (4)) ?_
      refine jj_icmp_ge (tgt := 113) dd_Mo_sweepTablet_17 (by decide) (fun h17 => ?_) (fun h17 => ?_)
      · exact absurd h17 (nI_ge (by omega) (by omega))
      · skip
        refine jj_aload_n 1 dd_Mo_sweepTablet_20 rfl ?_
        refine jj_iload_n 0 dd_Mo_sweepTablet_21 rfl ?_
        refine jj_iload_n 3 dd_Mo_sweepTablet_22 rfl ?_
        refine jj_callV (ci := 7) [_, _] [] 0 0 dd_Mo_sweepTablet_23 cs_Mo_148 ci_Mo_148 (hS.1.1 60 _ rfl) ⟨by decide, rfl⟩ rfl (Nat.le_of_ble_eq_true rfl) ⟨(Nat.le_of_ble_eq_true rfl), (Nat.le_of_ble_eq_true rfl)⟩ ⟨(Nat.le_of_ble_eq_true rfl), (Nat.le_of_ble_eq_true rfl)⟩ rfl (cs_use (cs_Mo_latest (S := (F, S.2)) hr hr2 (fun M hS => ?_)) hS)
        refine jj_istore (lv' := [(4, .int _), (3, .int (nI (4 * t + k))), (0, .ref (g 60)), (1, .int (nI (t))), (2, .int (w))]) dd_Mo_sweepTablet_26 (Nat.le_of_ble_eq_true rfl) rfl ?_
        refine jj_iload 0 dd_Mo_sweepTablet_28 rfl ?_
        refine jj_if_lt (tgt := 48) dd_Mo_sweepTablet_30 (by decide) (fun h30 => ?_) (fun h30 => ?_)
        · skip
          refine jj_iload 0 dd_Mo_sweepTablet_48 rfl ?_
          refine jj_istore (lv' := [(4, .int _), (3, .int (nI (4 * t + k))), (0, .ref (g 60)), (1, .int (nI (t))), (2, .int (w))]) dd_Mo_sweepTablet_50 (Nat.le_of_ble_eq_true rfl) rfl ?_
          refine jj_iconst (v := 0) dd_Mo_sweepTablet_52 rfl ?_
          refine jj_istore (lv' := [(5, .int (0)), (4, .int _), (3, .int (nI (4 * t + k))), (0, .ref (g 60)), (1, .int (nI (t))), (2, .int (w))]) dd_Mo_sweepTablet_53 (Nat.le_of_ble_eq_true rfl) rfl ?_
          unfold so_go sz_ at hQ
          rw [if_pos h30] at hQ
          refine inner (rec_ F) 0 (4 * t + k) (rec_ F) _ F M (by omega) hr2 hr hS (fun M hS => ?_)
          have e1 : ∀ z, rec_ (si_go (nI (4 * t + k)) w z (rec_ F) 0 F) = rec_ F := fun z => by unfold rec_; rw [si_oth _ _ _ _ _ _ _ _ (by omega)]
          refine jj_iinc 2 (lv' := [(3, .int (nI (4 * t + (k + 1)))), (5, .int (nI (rec_ F))), (4, .int _), (0, .ref (g 60)), (1, .int (nI (t))), (2, .int (w))]) dd_Mo_sweepTablet_107 rfl (nI_1 (4 * t + k)) (Nat.le_of_ble_eq_true rfl) rfl ?_
          refine jj_goto (tgt := 11) dd_Mo_sweepTablet_110 (by decide) ?_
          refine jj_sub [0, 3, 4, 5] rfl ?_
          exact ih _ _ _ (by omega) (by rw [e1]; exact hr2) (by rw [e1, si_oth _ _ _ _ _ _ _ _ (by omega)]; exact hr) hS hQ
        · skip
          refine jj_aload_n 2 dd_Mo_sweepTablet_33 rfl ?_
          refine jj_rS (n := 75) hS dd_Mo_sweepTablet_34 ff_Mo_41 rfl (fun _ => rfl) rfl ?_
          refine jj_iload 0 dd_Mo_sweepTablet_37 rfl ?_
          refine jj_aS hS dd_Mo_sweepTablet_39 rfl (ix_in (la_ix _ _ _ hr2) h30) ((la_ F (nI (4 * t + k)) w).toNatClampNeg) rfl ?_
          refine jj_iconst (v := 2) dd_Mo_sweepTablet_40 rfl ?_
          refine jj_icmp_ne (tgt := 48) dd_Mo_sweepTablet_41 (by decide) (fun h41 => ?_) (fun h41 => ?_)
          · skip
            refine jj_iload 0 dd_Mo_sweepTablet_48 rfl ?_
            refine jj_istore (lv' := [(4, .int _), (3, .int (nI (4 * t + k))), (0, .ref (g 60)), (1, .int (nI (t))), (2, .int (w))]) dd_Mo_sweepTablet_50 (Nat.le_of_ble_eq_true rfl) rfl ?_
            refine jj_iconst (v := 0) dd_Mo_sweepTablet_52 rfl ?_
            refine jj_istore (lv' := [(5, .int (0)), (4, .int _), (3, .int (nI (4 * t + k))), (0, .ref (g 60)), (1, .int (nI (t))), (2, .int (w))]) dd_Mo_sweepTablet_53 (Nat.le_of_ble_eq_true rfl) rfl ?_
            unfold so_go sz_ at hQ
            rw [if_neg h30, if_neg h41] at hQ
            refine inner (rec_ F) 0 (4 * t + k) (rec_ F) _ F M (by omega) hr2 hr hS (fun M hS => ?_)
            have e1 : ∀ z, rec_ (si_go (nI (4 * t + k)) w z (rec_ F) 0 F) = rec_ F := fun z => by unfold rec_; rw [si_oth _ _ _ _ _ _ _ _ (by omega)]
            refine jj_iinc 2 (lv' := [(3, .int (nI (4 * t + (k + 1)))), (5, .int (nI (rec_ F))), (4, .int _), (0, .ref (g 60)), (1, .int (nI (t))), (2, .int (w))]) dd_Mo_sweepTablet_107 rfl (nI_1 (4 * t + k)) (Nat.le_of_ble_eq_true rfl) rfl ?_
            refine jj_goto (tgt := 11) dd_Mo_sweepTablet_110 (by decide) ?_
            refine jj_sub [0, 3, 4, 5] rfl ?_
            exact ih _ _ _ (by omega) (by rw [e1]; exact hr2) (by rw [e1, si_oth _ _ _ _ _ _ _ _ (by omega)]; exact hr) hS hQ
          · skip
            refine jj_iconst (v := (-1)) dd_Mo_sweepTablet_44 rfl ?_
            refine jj_goto (tgt := 50) dd_Mo_sweepTablet_45 (by decide) ?_
            refine jj_istore (lv' := [(4, .int ((-1))), (3, .int (nI (4 * t + k))), (0, .ref (g 60)), (1, .int (nI (t))), (2, .int (w))]) dd_Mo_sweepTablet_50 (Nat.le_of_ble_eq_true rfl) rfl ?_
            refine jj_iconst (v := 0) dd_Mo_sweepTablet_52 rfl ?_
            refine jj_istore (lv' := [(5, .int (0)), (4, .int ((-1))), (3, .int (nI (4 * t + k))), (0, .ref (g 60)), (1, .int (nI (t))), (2, .int (w))]) dd_Mo_sweepTablet_53 (Nat.le_of_ble_eq_true rfl) rfl ?_
            unfold so_go sz_ at hQ
            rw [if_neg h30, if_pos h41] at hQ
            refine inner (rec_ F) 0 (4 * t + k) (rec_ F) _ F M (by omega) hr2 hr hS (fun M hS => ?_)
            have e1 : ∀ z, rec_ (si_go (nI (4 * t + k)) w z (rec_ F) 0 F) = rec_ F := fun z => by unfold rec_; rw [si_oth _ _ _ _ _ _ _ _ (by omega)]
            refine jj_iinc 2 (lv' := [(3, .int (nI (4 * t + (k + 1)))), (5, .int (nI (rec_ F))), (4, .int ((-1))), (0, .ref (g 60)), (1, .int (nI (t))), (2, .int (w))]) dd_Mo_sweepTablet_107 rfl (nI_1 (4 * t + k)) (Nat.le_of_ble_eq_true rfl) rfl ?_
            refine jj_goto (tgt := 11) dd_Mo_sweepTablet_110 (by decide) ?_
            refine jj_sub [0, 3, 4, 5] rfl ?_
            exact ih _ _ _ (by omega) (by rw [e1]; exact hr2) (by rw [e1, si_oth _ _ _ _ _ _ _ _ (by omega)]; exact hr) hS hQ
  refine jj_aload_n 0 dd_Mo_sweepTablet_0 rfl ?_
  refine jj_rS (n := 78) hS dd_Mo_sweepTablet_1 ff_Mo_51 rfl (fun _ => rfl) rfl ?_
  refine jj_iload_n 1 dd_Mo_sweepTablet_4 rfl ?_
  refine jj_iload_n 2 dd_Mo_sweepTablet_5 rfl ?_
  refine jj_asS hS dd_Mo_sweepTablet_6 rfl (vp_in_nI (n := t) (by omega) (by decide)) (t) (nI_clamp (n := t) (by omega)) (fun M hS => ?_)
  refine jj_iconst (v := 4) dd_Mo_sweepTablet_7 rfl ?_
  refine jj_iload_n 1 dd_Mo_sweepTablet_8 rfl ?_
  refine jj_imul dd_Mo_sweepTablet_9 ?_
  refine jj_ti (x' := nI (4 * t)) (pk_mul (4) (t)) ?_
  refine jj_istore_n (lv' := [(3, .int (nI (4 * t))), (0, .ref (g 60)), (1, .int (nI (t))), (2, .int (w))]) dd_Mo_sweepTablet_10 (Nat.le_of_ble_eq_true rfl) rfl ?_
  have e0 : rec_ (uf_ S.1 78 t w) = rec_ S.1 := by unfold rec_; rw [uf_at, if_neg (by omega)]
  exact loop 4 0 _ _ (by omega) (by rw [e0]; exact hr2) (by rw [e0, uf_at, if_neg (by omega)]; exact hr) hS hQ
