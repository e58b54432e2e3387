theorem mm_itm {c : Prop} [Decidable c] {P Q P' Q' : Prop} (h1 : c → P → P') (h2 : ¬ c → Q → Q') (h : if c then P else Q) : if c then P' else Q' := by
  by_cases hc : c
  · rw [if_pos hc] at h ⊢; exact h1 hc h
  · rw [if_neg hc] at h ⊢; exact h2 hc h
theorem cl_mono {F : Nat → Nat → Int32} {i p c : Nat} {K K' : Int32 → (Nat → Nat → Int32) → Prop} (hK : ∀ r F1, K r F1 → K' r F1) (h : cl_ F i p c K) : cl_ F i p c K' := by
  revert h
  unfold cl_
  repeat' first | with_reducible refine mm_itm (fun _ => ?_) (fun _ => ?_) | with_reducible exact hK _ _
theorem cl_inv {F : Nat → Nat → Int32} {i p c : Nat} {K : Int32 → (Nat → Nat → Int32) → Prop} {P : (Nat → Nat → Int32) → Prop} (h0 : P F) (hd : ∀ x, P (dn_F F i x)) (hv : ∀ j x, P (vo_F F j x)) (hvv : ∀ j x y, P (vo_F (vo_F F j x) i y)) (h : cl_ F i p c K) : cl_ F i p c (fun r F1 => K r F1 ∧ P F1) := by
  revert h
  unfold cl_
  repeat' first | with_reducible refine mm_itm (fun _ => ?_) (fun _ => ?_) | with_reducible exact fun h => ⟨h, h0⟩ | with_reducible exact fun h => ⟨h, hd _⟩ | with_reducible exact fun h => ⟨h, hv _ _⟩ | with_reducible exact fun h => ⟨h, hvv _ _ _⟩
theorem cl_str {F : Nat → Nat → Int32} {i p c : Nat} {K : Int32 → (Nat → Nat → Int32) → Prop} (hr : F 60 11 = nI (rec_ F)) (hr2 : rec_ F < 1538) (h : cl_ F i p c K) : cl_ F i p c (fun r F1 => K r F1 ∧ F1 60 11 = nI (rec_ F1) ∧ rec_ F1 ≤ rec_ F + 2) := by
  have v1 := fun (i : Nat) (x : Int32) => vo_rec (i := i) (x := x) hr (by omega)
  have v3 := fun (i : Nat) (x : Int32) => dn_rec (i := i) (x := x) hr (by omega)
  refine cl_inv (P := fun F1 => F1 60 11 = nI (rec_ F1) ∧ rec_ F1 ≤ rec_ F + 2) ⟨hr, by omega⟩ (fun x => ⟨(v3 i x).1, Nat.le_trans (v3 i x).2 (by omega)⟩) (fun j x => ⟨(v1 j x).1, Nat.le_trans (v1 j x).2 (by omega)⟩) (fun j x y => ?_) h
  have a := v1 j x
  have b := vo_rec (i := i) (x := y) a.1 (by omega)
  exact ⟨b.1, by omega⟩
def pn_ (F : Nat → Nat → Int32) (i : Nat) : Nat := (F 66 i).toNatClampNeg
def on_ (F : Nat → Nat → Int32) (i : Nat) : Nat := (F 67 i).toNatClampNeg
def ok_ (F : Nat → Nat → Int32) : Prop := (∀ i, i < 12 → F 66 i = nI (pn_ F i) ∧ pn_ F i < 12) ∧ ∀ i, i < 12 → F 67 i = nI (on_ F i) ∧ on_ F i < 4
def gl_ (F : Nat → Nat → Int32) (c i : Nat) (K : Int32 → (Nat → Nat → Int32) → Prop) : Prop :=
  if la_ F (nI i) (F 84 c) < 0 then K 0 (uf_ F 60 1 3) else if F 75 (la_ F (nI i) (F 84 c)).toNatClampNeg = 2 then K 0 (uf_ F 60 1 3) else K (F 76 (la_ F (nI i) (F 84 c)).toNatClampNeg) F
def ge_ (F : Nat → Nat → Int32) (c i : Nat) (K : Int32 → (Nat → Nat → Int32) → Prop) : Prop :=
  if F 83 c = 1 then
    if F 87 (12 * c + i) ≤ 0 then
      if F 77 (i / 4) = 0 then
        if F 78 (i / 4) ≤ F 84 c then
          if F 65 i ≤ 0 then gl_ F c i K else if F 84 c ≤ F 65 i then gl_ F c i K
          else cl_ F i (pn_ F i) (on_ F (pn_ F i)) (fun r F1 => if r = 1 then K 0 (uf_ F1 60 1 2) else if r = 0 then K 0 (uf_ F1 60 1 2) else gl_ F1 c i K)
        else K 0 (uf_ F 60 1 4)
      else K 0 (uf_ F 60 1 2)
    else if F 87 (12 * c + i) = 1 then K (F 88 (12 * c + i)) F else K 0 (uf_ F 60 1 3)
  else K 0 (uf_ F 60 1 2)
def pc_ (F : Nat → Nat → Int32) (c i : Nat) (K : Int32 → (Nat → Nat → Int32) → Prop) : Prop := if lo_r F c i (nI (fi_ F c)) = 0 then K 0 (uf_ (lo_F F c i (nI (fi_ F c))) 60 1 3) else K 1 (uf_ (lo_F F c i (nI (fi_ F c))) 89 (12 * c + i) 1)
def pw_ (F : Nat → Nat → Int32) (c i : Nat) (K : Int32 → (Nat → Nat → Int32) → Prop) : Prop :=
  if F 77 (i / 4) = 0 then
    if F 65 i = F 84 c then K 1 (uf_ F 89 (12 * c + i) 1)
    else if F 84 c < F 78 (i / 4) then K 0 (uf_ F 83 c 0)
    else if ov_ F (nI i) (F 84 c) = 0 then
      if F 65 i ≤ 0 then pc_ F c i K
      else cl_ F i (pn_ F i) (on_ F (pn_ F i)) (fun r F1 => if r = 1 then K 0 (uf_ F1 60 1 3) else if r = 0 then K 0 (uf_ F1 60 1 3) else if ov_ F1 (nI i) (F 84 c) = 0 then pc_ F1 c i K else K 0 (uf_ F1 83 c 0))
    else K 0 (uf_ F 83 c 0)
  else K 0 (uf_ F 60 1 3)
def dx_ (F : Nat → Nat → Int32) (c : Nat) (K : Int32 → (Nat → Nat → Int32) → Prop) : Prop := if nI (nx_ (uf_ F 86 c 1) c 1) = 12 then K 4 (uf_ (uf_ F 86 c 1) 83 c 0) else K 3 (uf_ F 86 c 1)
def de_ (F : Nat → Nat → Int32) (c : Nat) (K : Int32 → (Nat → Nat → Int32) → Prop) : Prop :=
  if F 77 (fi_ F c / 4) = 0 then
    if dc_ F (nI (fi_ F c)) (F 84 c) = 0 then
      if F 65 (fi_ F c) = F 84 c then
        if dn_r F (fi_ F c) (F 85 c) = 0 then K 0 (uf_ (dn_F F (fi_ F c) (F 85 c)) 60 1 3) else dx_ (dn_F F (fi_ F c) (F 85 c)) c K
      else K 0 (uf_ F 83 c 0)
    else dx_ F c K
  else K 0 (uf_ F 60 1 3)
def fx_ (F : Nat → Nat → Int32) (c i : Nat) (K : Int32 → (Nat → Nat → Int32) → Prop) : Prop := if nI (nx_ (uf_ F 90 (12 * c + i) 1) c 1) = 12 then K 6 (uf_ (uf_ F 90 (12 * c + i) 1) 83 c 0) else K 5 (uf_ F 90 (12 * c + i) 1)
def fo_ (F : Nat → Nat → Int32) (c : Nat) (K : Int32 → (Nat → Nat → Int32) → Prop) : Prop :=
  if F 77 (nx_ F c 1 / 4) = 0 then
    if F 65 (nx_ F c 1) = F 84 c then
      if dn_r F (nx_ F c 1) (F 85 c) = 0 then K 0 (uf_ (dn_F F (nx_ F c 1) (F 85 c)) 60 1 3) else fx_ (dn_F F (nx_ F c 1) (F 85 c)) c (nx_ F c 1) K
    else fx_ F c (nx_ F c 1) K
  else K 0 (uf_ F 60 1 3)
set_option maxRecDepth 20000 in
theorem cs_Mo_prewrite {l : Launch} {g : Nat → Nat} {S : ss_} {Q : Option Value → ss_ → Prop} {c i : Nat} (hc : c < 4) (hi : i < 12) (hok : ok_ S.1) (hr : S.1 60 11 = nI (rec_ S.1)) (hr2 : rec_ S.1 < 1538) (hQ : pw_ S.1 c i (fun r F => Q (some (.int r)) (F, S.2))) : cs_ l yy_Mo_prewrite bb_Mo_prewrite 5 (some .int) 3 0 0 g [.ref (g 60), .int (nI c), .int (nI i)] S Q := by
  intro M hS
  refine ct_of (by decide) (Nat.le_of_ble_eq_true rfl) (fun G A => ?_)
  unfold pw_ pc_ at hQ
  refine jj_aload_n 0 dd_Mo_prewrite_0 rfl ?_
  refine jj_rS (n := 84) hS dd_Mo_prewrite_1 ff_Mo_69 rfl (fun _ => rfl) rfl ?_
  refine jj_iload_n 1 dd_Mo_prewrite_4 rfl ?_
  refine jj_aS hS dd_Mo_prewrite_5 rfl (vp_in_nI (n := c) (by omega) (by decide)) (c) (nI_clamp (n := c) (by omega)) ?_
  refine jj_istore_n (lv' := [(3, .int _), (0, .ref (g 60)), (1, .int (nI (c))), (2, .int (nI (i)))]) dd_Mo_prewrite_6 (Nat.le_of_ble_eq_true rfl) rfl ?_
  refine jj_aload_n 1 dd_Mo_prewrite_7 rfl ?_
  refine jj_rS (n := 77) hS dd_Mo_prewrite_8 ff_Mo_47 rfl (fun _ => rfl) rfl ?_
  refine jj_iload_n 3 dd_Mo_prewrite_11 rfl ?_
  refine jj_iconst (v := 4) dd_Mo_prewrite_12 rfl ?_
  refine jj_idiv dd_Mo_prewrite_13 (by decide) ?_
  refine jj_ti (x' := nI ((i) / 4)) (pk_div (a := i) (d := 4) (by omega) (by decide) (by decide)) ?_
  refine jj_zS hS dd_Mo_prewrite_14 rfl (vp_in_nI (n := (i) / 4) (by omega) (by decide)) ((i) / 4) (nI_clamp (n := (i) / 4) (by omega)) ?_
  refine jj_if_eq (tgt := 24) dd_Mo_prewrite_15 (by decide) (fun h15 => ?_) (fun h15 => ?_)
  · skip
    refine jj_aload_n 1 dd_Mo_prewrite_24 rfl ?_
    refine jj_rS (n := 65) hS dd_Mo_prewrite_25 ff_Mo_13 rfl (fun _ => rfl) rfl ?_
    refine jj_iload_n 3 dd_Mo_prewrite_28 rfl ?_
    refine jj_aS hS dd_Mo_prewrite_29 rfl (vp_in_nI (n := i) (by omega) (by decide)) (i) (nI_clamp (n := i) (by omega)) ?_
    refine jj_iload_n 0 dd_Mo_prewrite_30 rfl ?_
    refine jj_icmp_eq (tgt := 135) dd_Mo_prewrite_31 (by decide) (fun h31 => ?_) (fun h31 => ?_)
    · skip
      refine jj_aload_n 1 dd_Mo_prewrite_135 rfl ?_
      refine jj_rS (n := 89) hS dd_Mo_prewrite_136 ff_Mo_84 rfl (fun _ => rfl) rfl ?_
      refine jj_bipush (v := 12) dd_Mo_prewrite_139 rfl ?_
      refine jj_iload_n 2 dd_Mo_prewrite_141 rfl ?_
      refine jj_imul dd_Mo_prewrite_142 ?_
      refine jj_ti (x' := nI (12 * c)) (pk_mul (12) (c)) ?_
      refine jj_iload_n 3 dd_Mo_prewrite_143 rfl ?_
      refine jj_iadd dd_Mo_prewrite_144 ?_
      refine jj_ti (x' := nI ((12 * c) + (i))) (nI_add (12 * c) (i)) ?_
      refine jj_iconst (v := 1) dd_Mo_prewrite_145 rfl ?_
      refine jj_zsS hS dd_Mo_prewrite_146 rfl (vp_in_nI (n := (12 * c) + (i)) (by omega) (by decide)) rfl ((12 * c) + (i)) (nI_clamp (n := (12 * c) + (i)) (by omega)) (fun M hS => ?_)
      refine jj_iconst (v := 1) dd_Mo_prewrite_147 rfl ?_
      refine jj_iret dd_Mo_prewrite_148 rfl rfl ?_
      rw [if_pos h15, if_pos h31] at hQ
      exact ⟨_, hS, hQ⟩
    · skip
      refine jj_aload_n 1 dd_Mo_prewrite_34 rfl ?_
      refine jj_rS (n := 78) hS dd_Mo_prewrite_35 ff_Mo_51 rfl (fun _ => rfl) rfl ?_
      refine jj_iload_n 3 dd_Mo_prewrite_38 rfl ?_
      refine jj_iconst (v := 4) dd_Mo_prewrite_39 rfl ?_
      refine jj_idiv dd_Mo_prewrite_40 (by decide) ?_
      refine jj_ti (x' := nI ((i) / 4)) (pk_div (a := i) (d := 4) (by omega) (by decide) (by decide)) ?_
      refine jj_aS hS dd_Mo_prewrite_41 rfl (vp_in_nI (n := (i) / 4) (by omega) (by decide)) ((i) / 4) (nI_clamp (n := (i) / 4) (by omega)) ?_
      refine jj_iload_n 0 dd_Mo_prewrite_42 rfl ?_
      refine jj_icmp_gt (tgt := 55) dd_Mo_prewrite_43 (by decide) (fun h43 => ?_) (fun h43 => ?_)
      · skip
        refine jj_aload_n 1 dd_Mo_prewrite_55 rfl ?_
        refine jj_iload_n 2 dd_Mo_prewrite_56 rfl ?_
        refine jj_iconst (v := 0) dd_Mo_prewrite_57 rfl ?_
        refine jj_callV (ci := 7) [_, _] [] 0 0 dd_Mo_prewrite_58 cs_Mo_158 ci_Mo_158 (hS.1.1 60 _ rfl) ⟨by decide, rfl⟩ rfl (Nat.le_of_ble_eq_true rfl) ⟨(Nat.le_of_ble_eq_true rfl), (Nat.le_of_ble_eq_true rfl)⟩ ⟨(Nat.le_of_ble_eq_true rfl), (Nat.le_of_ble_eq_true rfl)⟩ rfl (cs_use (cs_Mo_ends (c := c) hc (fun M hS => ?_)) hS)
        refine jj_iret dd_Mo_prewrite_61 rfl rfl ?_
        rw [if_pos h15, if_neg h31, if_pos h43] at hQ
        exact ⟨_, hS, hQ⟩
      · skip
        refine jj_aload_n 1 dd_Mo_prewrite_46 rfl ?_
        refine jj_iload_n 3 dd_Mo_prewrite_47 rfl ?_
        refine jj_iload_n 0 dd_Mo_prewrite_48 rfl ?_
        refine jj_callV (ci := 7) [_, _] [] 0 0 dd_Mo_prewrite_49 cs_Mo_174 ci_Mo_174 (hS.1.1 60 _ rfl) ⟨by decide, rfl⟩ rfl (Nat.le_of_ble_eq_true rfl) ⟨(Nat.le_of_ble_eq_true rfl), (Nat.le_of_ble_eq_true rfl)⟩ ⟨(Nat.le_of_ble_eq_true rfl), (Nat.le_of_ble_eq_true rfl)⟩ rfl (cs_use (cs_Mo_overtaken (by first | exact hr | exact hr3) (by first | omega | (show rec_ F1 ≤ 1540; omega)) (fun M hS => ?_)) hS)
        refine jj_if_eq (tgt := 62) dd_Mo_prewrite_52 (by decide) (fun h52 => ?_) (fun h52 => ?_)
        · skip
          refine jj_aload_n 1 dd_Mo_prewrite_62 rfl ?_
          refine jj_rS (n := 65) hS dd_Mo_prewrite_63 ff_Mo_13 rfl (fun _ => rfl) rfl ?_
          refine jj_iload_n 3 dd_Mo_prewrite_66 rfl ?_
          refine jj_aS hS dd_Mo_prewrite_67 rfl (vp_in_nI (n := i) (by omega) (by decide)) (i) (nI_clamp (n := i) (by omega)) ?_
          refine jj_if_le (tgt := 111) dd_Mo_prewrite_68 (by decide) (fun h68 => ?_) (fun h68 => ?_)
          · skip
            skip
            refine jj_aload_n 1 dd_Mo_prewrite_111 rfl ?_
            refine jj_iload_n 2 dd_Mo_prewrite_112 rfl ?_
            refine jj_callV (ci := 7) [_] [] 0 0 dd_Mo_prewrite_113 cs_Mo_155 ci_Mo_155 (hS.1.1 60 _ rfl) ⟨by decide, rfl⟩ rfl (Nat.le_of_ble_eq_true rfl) ⟨(Nat.le_of_ble_eq_true rfl), (Nat.le_of_ble_eq_true rfl)⟩ ⟨(Nat.le_of_ble_eq_true rfl), (Nat.le_of_ble_eq_true rfl)⟩ rfl (cs_use (cs_Mo_first (c := c) hc (fun M hS => ?_)) hS)
            refine jj_istore (lv' := [(4, .int _), (3, .int _), (0, .ref (g 60)), (1, .int (nI (c))), (2, .int (nI (i)))]) dd_Mo_prewrite_116 (Nat.le_of_ble_eq_true rfl) rfl ?_
            refine jj_aload_n 2 dd_Mo_prewrite_118 rfl ?_
            refine jj_iload_n 3 dd_Mo_prewrite_119 rfl ?_
            refine jj_iload_n 4 dd_Mo_prewrite_120 rfl ?_
            refine jj_iload 0 dd_Mo_prewrite_121 rfl ?_
            refine jj_callV (ci := 7) [_, _, _] [] 0 0 dd_Mo_prewrite_123 cs_Mo_177 ci_Mo_177 (hS.1.1 60 _ rfl) ⟨by decide, rfl⟩ rfl (Nat.le_of_ble_eq_true rfl) ⟨(Nat.le_of_ble_eq_true rfl), (Nat.le_of_ble_eq_true rfl)⟩ ⟨(Nat.le_of_ble_eq_true rfl), (Nat.le_of_ble_eq_true rfl)⟩ rfl (cs_use (cs_Mo_locks (c := c) (i := i) hc hi (fun M hS => ?_)) hS)
            refine jj_if_ne (tgt := 135) dd_Mo_prewrite_126 (by decide) (fun h126 => ?_) (fun h126 => ?_)
            · skip
              refine jj_aload_n 2 dd_Mo_prewrite_135 rfl ?_
              refine jj_rS (n := 89) hS dd_Mo_prewrite_136 ff_Mo_84 rfl (fun _ => rfl) rfl ?_
              refine jj_bipush (v := 12) dd_Mo_prewrite_139 rfl ?_
              refine jj_iload_n 3 dd_Mo_prewrite_141 rfl ?_
              refine jj_imul dd_Mo_prewrite_142 ?_
              refine jj_ti (x' := nI (12 * c)) (pk_mul (12) (c)) ?_
              refine jj_iload_n 4 dd_Mo_prewrite_143 rfl ?_
              refine jj_iadd dd_Mo_prewrite_144 ?_
              refine jj_ti (x' := nI ((12 * c) + (i))) (nI_add (12 * c) (i)) ?_
              refine jj_iconst (v := 1) dd_Mo_prewrite_145 rfl ?_
              refine jj_zsS hS dd_Mo_prewrite_146 rfl (vp_in_nI (n := (12 * c) + (i)) (by omega) (by decide)) rfl ((12 * c) + (i)) (nI_clamp (n := (12 * c) + (i)) (by omega)) (fun M hS => ?_)
              refine jj_iconst (v := 1) dd_Mo_prewrite_147 rfl ?_
              refine jj_iret dd_Mo_prewrite_148 rfl rfl ?_
              rw [if_pos h15, if_neg h31, if_neg h43, if_pos h52, if_pos h68, if_neg h126] at hQ
              exact ⟨_, hS, hQ⟩
            · skip
              refine jj_aload_n 2 dd_Mo_prewrite_129 rfl ?_
              refine jj_iconst (v := 3) dd_Mo_prewrite_130 rfl ?_
              refine jj_callV (ci := 7) [_] [] 0 0 dd_Mo_prewrite_131 cs_Mo_134 ci_Mo_134 (hS.1.1 60 _ rfl) ⟨by decide, rfl⟩ rfl (Nat.le_of_ble_eq_true rfl) ⟨(Nat.le_of_ble_eq_true rfl), (Nat.le_of_ble_eq_true rfl)⟩ ⟨(Nat.le_of_ble_eq_true rfl), (Nat.le_of_ble_eq_true rfl)⟩ rfl (cs_use (cs_Mo_fails (fun M hS => ?_)) hS)
              refine jj_iret dd_Mo_prewrite_134 rfl rfl ?_
              rw [if_pos h15, if_neg h31, if_neg h43, if_pos h52, if_pos h68, if_pos h126] at hQ
              exact ⟨_, hS, hQ⟩
          · skip
            refine jj_aload_n 1 dd_Mo_prewrite_71 rfl ?_
            refine jj_iload_n 3 dd_Mo_prewrite_72 rfl ?_
            rw [if_pos h15, if_neg h31, if_neg h43, if_pos h52, if_neg h68] at hQ
            refine jj_callV (ci := 7) [_] [] 0 0 dd_Mo_prewrite_73 cs_Mo_145 ci_Mo_145 (hS.1.1 60 _ rfl) ⟨by decide, rfl⟩ rfl (Nat.le_of_ble_eq_true rfl) ⟨(Nat.le_of_ble_eq_true rfl), (Nat.le_of_ble_eq_true rfl)⟩ ⟨(Nat.le_of_ble_eq_true rfl), (Nat.le_of_ble_eq_true rfl)⟩ rfl (cs_use (cs_Mo_clearing hi (hok.1 i hi).1 (hok.1 i hi).2 (hok.2 _ (hok.1 i hi).2).1 (hok.2 _ (hok.1 i hi).2).2 hr hr2 (cl_mono (fun r F1 hh => ?_) (cl_str hr hr2 hQ))) hS)
            intro M hS
            obtain ⟨hQ, hr3, hr4⟩ := hh
            refine jj_istore (lv' := [(4, .int _), (3, .int _), (0, .ref (g 60)), (1, .int (nI (c))), (2, .int (nI (i)))]) dd_Mo_prewrite_76 (Nat.le_of_ble_eq_true rfl) rfl ?_
            refine jj_iload 0 dd_Mo_prewrite_78 rfl ?_
            refine jj_iconst (v := 1) dd_Mo_prewrite_80 rfl ?_
            refine jj_icmp_eq (tgt := 89) dd_Mo_prewrite_81 (by decide) (fun h81 => ?_) (fun h81 => ?_)
            · skip
              refine jj_aload_n 2 dd_Mo_prewrite_89 rfl ?_
              refine jj_iconst (v := 3) dd_Mo_prewrite_90 rfl ?_
              refine jj_callV (ci := 7) [_] [] 0 0 dd_Mo_prewrite_91 cs_Mo_134 ci_Mo_134 (hS.1.1 60 _ rfl) ⟨by decide, rfl⟩ rfl (Nat.le_of_ble_eq_true rfl) ⟨(Nat.le_of_ble_eq_true rfl), (Nat.le_of_ble_eq_true rfl)⟩ ⟨(Nat.le_of_ble_eq_true rfl), (Nat.le_of_ble_eq_true rfl)⟩ rfl (cs_use (cs_Mo_fails (fun M hS => ?_)) hS)
              refine jj_iret dd_Mo_prewrite_94 rfl rfl ?_
              rw [if_pos h81] at hQ
              exact ⟨_, hS, hQ⟩
            · skip
              refine jj_iload 0 dd_Mo_prewrite_84 rfl ?_
              refine jj_if_ne (tgt := 95) dd_Mo_prewrite_86 (by decide) (fun h86 => ?_) (fun h86 => ?_)
              · skip
                refine jj_aload_n 2 dd_Mo_prewrite_95 rfl ?_
                refine jj_iload_n 4 dd_Mo_prewrite_96 rfl ?_
                refine jj_iload_n 1 dd_Mo_prewrite_97 rfl ?_
                refine jj_callV (ci := 7) [_, _] [] 0 0 dd_Mo_prewrite_98 cs_Mo_174 ci_Mo_174 (hS.1.1 60 _ rfl) ⟨by decide, rfl⟩ rfl (Nat.le_of_ble_eq_true rfl) ⟨(Nat.le_of_ble_eq_true rfl), (Nat.le_of_ble_eq_true rfl)⟩ ⟨(Nat.le_of_ble_eq_true rfl), (Nat.le_of_ble_eq_true rfl)⟩ rfl (cs_use (cs_Mo_overtaken (by first | exact hr | exact hr3) (by first | omega | (show rec_ F1 ≤ 1540; omega)) (fun M hS => ?_)) hS)
                refine jj_if_eq (tgt := 111) dd_Mo_prewrite_101 (by decide) (fun h101 => ?_) (fun h101 => ?_)
                · skip
                  skip
                  refine jj_aload_n 2 dd_Mo_prewrite_111 rfl ?_
                  refine jj_iload_n 3 dd_Mo_prewrite_112 rfl ?_
                  refine jj_callV (ci := 7) [_] [] 0 0 dd_Mo_prewrite_113 cs_Mo_155 ci_Mo_155 (hS.1.1 60 _ rfl) ⟨by decide, rfl⟩ rfl (Nat.le_of_ble_eq_true rfl) ⟨(Nat.le_of_ble_eq_true rfl), (Nat.le_of_ble_eq_true rfl)⟩ ⟨(Nat.le_of_ble_eq_true rfl), (Nat.le_of_ble_eq_true rfl)⟩ rfl (cs_use (cs_Mo_first (c := c) hc (fun M hS => ?_)) hS)
                  refine jj_istore (lv' := [(4, .int _), (3, .int _), (0, .ref (g 60)), (1, .int (nI (c))), (2, .int (nI (i)))]) dd_Mo_prewrite_116 (Nat.le_of_ble_eq_true rfl) rfl ?_
                  refine jj_aload_n 2 dd_Mo_prewrite_118 rfl ?_
                  refine jj_iload_n 3 dd_Mo_prewrite_119 rfl ?_
                  refine jj_iload_n 4 dd_Mo_prewrite_120 rfl ?_
                  refine jj_iload 0 dd_Mo_prewrite_121 rfl ?_
                  refine jj_callV (ci := 7) [_, _, _] [] 0 0 dd_Mo_prewrite_123 cs_Mo_177 ci_Mo_177 (hS.1.1 60 _ rfl) ⟨by decide, rfl⟩ rfl (Nat.le_of_ble_eq_true rfl) ⟨(Nat.le_of_ble_eq_true rfl), (Nat.le_of_ble_eq_true rfl)⟩ ⟨(Nat.le_of_ble_eq_true rfl), (Nat.le_of_ble_eq_true rfl)⟩ rfl (cs_use (cs_Mo_locks (c := c) (i := i) hc hi (fun M hS => ?_)) hS)
                  refine jj_if_ne (tgt := 135) dd_Mo_prewrite_126 (by decide) (fun h126 => ?_) (fun h126 => ?_)
                  · skip
                    refine jj_aload_n 2 dd_Mo_prewrite_135 rfl ?_
                    refine jj_rS (n := 89) hS dd_Mo_prewrite_136 ff_Mo_84 rfl (fun _ => rfl) rfl ?_
                    refine jj_bipush (v := 12) dd_Mo_prewrite_139 rfl ?_
                    refine jj_iload_n 3 dd_Mo_prewrite_141 rfl ?_
                    refine jj_imul dd_Mo_prewrite_142 ?_
                    refine jj_ti (x' := nI (12 * c)) (pk_mul (12) (c)) ?_
                    refine jj_iload_n 4 dd_Mo_prewrite_143 rfl ?_
                    refine jj_iadd dd_Mo_prewrite_144 ?_
                    refine jj_ti (x' := nI ((12 * c) + (i))) (nI_add (12 * c) (i)) ?_
                    refine jj_iconst (v := 1) dd_Mo_prewrite_145 rfl ?_
                    refine jj_zsS hS dd_Mo_prewrite_146 rfl (vp_in_nI (n := (12 * c) + (i)) (by omega) (by decide)) rfl ((12 * c) + (i)) (nI_clamp (n := (12 * c) + (i)) (by omega)) (fun M hS => ?_)
                    refine jj_iconst (v := 1) dd_Mo_prewrite_147 rfl ?_
                    refine jj_iret dd_Mo_prewrite_148 rfl rfl ?_
                    rw [if_neg h81, if_neg h86, if_pos h101, if_neg h126] at hQ
                    exact ⟨_, hS, hQ⟩
                  · skip
                    refine jj_aload_n 2 dd_Mo_prewrite_129 rfl ?_
                    refine jj_iconst (v := 3) dd_Mo_prewrite_130 rfl ?_
                    refine jj_callV (ci := 7) [_] [] 0 0 dd_Mo_prewrite_131 cs_Mo_134 ci_Mo_134 (hS.1.1 60 _ rfl) ⟨by decide, rfl⟩ rfl (Nat.le_of_ble_eq_true rfl) ⟨(Nat.le_of_ble_eq_true rfl), (Nat.le_of_ble_eq_true rfl)⟩ ⟨(Nat.le_of_ble_eq_true rfl), (Nat.le_of_ble_eq_true rfl)⟩ rfl (cs_use (cs_Mo_fails (fun M hS => ?_)) hS)
                    refine jj_iret dd_Mo_prewrite_134 rfl rfl ?_
                    rw [if_neg h81, if_neg h86, if_pos h101, if_pos h126] at hQ
                    exact ⟨_, hS, hQ⟩
                · skip
                  refine jj_aload_n 2 dd_Mo_prewrite_104 rfl ?_
                  refine jj_iload_n 3 dd_Mo_prewrite_105 rfl ?_
                  refine jj_iconst (v := 0) dd_Mo_prewrite_106 rfl ?_
                  refine jj_callV (ci := 7) [_, _] [] 0 0 dd_Mo_prewrite_107 cs_Mo_158 ci_Mo_158 (hS.1.1 60 _ rfl) ⟨by decide, rfl⟩ rfl (Nat.le_of_ble_eq_true rfl) ⟨(Nat.le_of_ble_eq_true rfl), (Nat.le_of_ble_eq_true rfl)⟩ ⟨(Nat.le_of_ble_eq_true rfl), (Nat.le_of_ble_eq_true rfl)⟩ rfl (cs_use (cs_Mo_ends (c := c) hc (fun M hS => ?_)) hS)
                  refine jj_iret dd_Mo_prewrite_110 rfl rfl ?_
                  rw [if_neg h81, if_neg h86, if_neg h101] at hQ
                  exact ⟨_, hS, hQ⟩
              · skip
                refine jj_aload_n 2 dd_Mo_prewrite_89 rfl ?_
                refine jj_iconst (v := 3) dd_Mo_prewrite_90 rfl ?_
                refine jj_callV (ci := 7) [_] [] 0 0 dd_Mo_prewrite_91 cs_Mo_134 ci_Mo_134 (hS.1.1 60 _ rfl) ⟨by decide, rfl⟩ rfl (Nat.le_of_ble_eq_true rfl) ⟨(Nat.le_of_ble_eq_true rfl), (Nat.le_of_ble_eq_true rfl)⟩ ⟨(Nat.le_of_ble_eq_true rfl), (Nat.le_of_ble_eq_true rfl)⟩ rfl (cs_use (cs_Mo_fails (fun M hS => ?_)) hS)
                refine jj_iret dd_Mo_prewrite_94 rfl rfl ?_
                rw [if_neg h81, if_pos h86] at hQ
                exact ⟨_, hS, hQ⟩
        · skip
          refine jj_aload_n 1 dd_Mo_prewrite_55 rfl ?_
          refine jj_iload_n 2 dd_Mo_prewrite_56 rfl ?_
          refine jj_iconst (v := 0) dd_Mo_prewrite_57 rfl ?_
          refine jj_callV (ci := 7) [_, _] [] 0 0 dd_Mo_prewrite_58 cs_Mo_158 ci_Mo_158 (hS.1.1 60 _ rfl) ⟨by decide, rfl⟩ rfl (Nat.le_of_ble_eq_true rfl) ⟨(Nat.le_of_ble_eq_true rfl), (Nat.le_of_ble_eq_true rfl)⟩ ⟨(Nat.le_of_ble_eq_true rfl), (Nat.le_of_ble_eq_true rfl)⟩ rfl (cs_use (cs_Mo_ends (c := c) hc (fun M hS => ?_)) hS)
          refine jj_iret dd_Mo_prewrite_61 rfl rfl ?_
          rw [if_pos h15, if_neg h31, if_neg h43, if_neg h52] at hQ
          exact ⟨_, hS, hQ⟩
  · skip
    refine jj_aload_n 1 dd_Mo_prewrite_18 rfl ?_
    refine jj_iconst (v := 3) dd_Mo_prewrite_19 rfl ?_
    refine jj_callV (ci := 7) [_] [] 0 0 dd_Mo_prewrite_20 cs_Mo_134 ci_Mo_134 (hS.1.1 60 _ rfl) ⟨by decide, rfl⟩ rfl (Nat.le_of_ble_eq_true rfl) ⟨(Nat.le_of_ble_eq_true rfl), (Nat.le_of_ble_eq_true rfl)⟩ ⟨(Nat.le_of_ble_eq_true rfl), (Nat.le_of_ble_eq_true rfl)⟩ rfl (cs_use (cs_Mo_fails (fun M hS => ?_)) hS)
    refine jj_iret dd_Mo_prewrite_23 rfl rfl ?_
    rw [if_neg h15] at hQ
    exact ⟨_, hS, hQ⟩
set_option maxRecDepth 20000 in
theorem cs_Mo_decide {l : Launch} {g : Nat → Nat} {S : ss_} {Q : Option Value → ss_ → Prop} {c : Nat} (hc : c < 4) (hr : S.1 60 11 = nI (rec_ S.1)) (hr2 : rec_ S.1 < 1538) (hQ : de_ S.1 c (fun r F => Q (some (.int r)) (F, S.2))) : cs_ l yy_Mo_decide bb_Mo_decide 3 (some .int) 2 0 0 g [.ref (g 60), .int (nI c)] S Q := by
  intro M hS
  refine ct_of (by decide) (Nat.le_of_ble_eq_true rfl) (fun G A => ?_)
  have hfi : fi_ S.1 c ≤ 11 := fi_le S.1 c 11 0
  unfold de_ dx_ at hQ
  refine jj_aload_n 0 dd_Mo_decide_0 rfl ?_
  refine jj_iload_n 1 dd_Mo_decide_1 rfl ?_
  refine jj_callV (ci := 7) [_] [] 0 0 dd_Mo_decide_2 cs_Mo_155 ci_Mo_155 (hS.1.1 60 _ rfl) ⟨by decide, rfl⟩ rfl (Nat.le_of_ble_eq_true rfl) ⟨(Nat.le_of_ble_eq_true rfl), (Nat.le_of_ble_eq_true rfl)⟩ ⟨(Nat.le_of_ble_eq_true rfl), (Nat.le_of_ble_eq_true rfl)⟩ rfl (cs_use (cs_Mo_first (c := c) hc (fun M hS => ?_)) hS)
  refine jj_istore_n (lv' := [(2, .int (nI (fi_ S.1 c))), (0, .ref (g 60)), (1, .int (nI (c)))]) dd_Mo_decide_5 (Nat.le_of_ble_eq_true rfl) rfl ?_
  refine jj_aload_n 1 dd_Mo_decide_6 rfl ?_
  refine jj_rS (n := 77) hS dd_Mo_decide_7 ff_Mo_47 rfl (fun _ => rfl) rfl ?_
  refine jj_iload_n 0 dd_Mo_decide_10 rfl ?_
  refine jj_iconst (v := 4) dd_Mo_decide_11 rfl ?_
  refine jj_idiv dd_Mo_decide_12 (by decide) ?_
  refine jj_ti (x' := nI ((fi_ S.1 c) / 4)) (pk_div (a := fi_ S.1 c) (d := 4) (by omega) (by decide) (by decide)) ?_
  refine jj_zS hS dd_Mo_decide_13 rfl (vp_in_nI (n := (fi_ S.1 c) / 4) (by omega) (by decide)) ((fi_ S.1 c) / 4) (nI_clamp (n := (fi_ S.1 c) / 4) (by omega)) ?_
  refine jj_if_eq (tgt := 23) dd_Mo_decide_14 (by decide) (fun h14 => ?_) (fun h14 => ?_)
  · skip
    refine jj_aload_n 1 dd_Mo_decide_23 rfl ?_
    refine jj_iload_n 0 dd_Mo_decide_24 rfl ?_
    refine jj_aload_n 1 dd_Mo_decide_25 rfl ?_
    refine jj_rS (n := 84) hS dd_Mo_decide_26 ff_Mo_69 rfl (fun _ => rfl) rfl ?_
    refine jj_iload_n 2 dd_Mo_decide_29 rfl ?_
    refine jj_aS hS dd_Mo_decide_30 rfl (vp_in_nI (n := c) (by omega) (by decide)) (c) (nI_clamp (n := c) (by omega)) ?_
    refine jj_callV (ci := 7) [_, _] [] 0 0 dd_Mo_decide_31 cs_Mo_113 ci_Mo_113 (hS.1.1 60 _ rfl) ⟨by decide, rfl⟩ rfl (Nat.le_of_ble_eq_true rfl) ⟨(Nat.le_of_ble_eq_true rfl), (Nat.le_of_ble_eq_true rfl)⟩ ⟨(Nat.le_of_ble_eq_true rfl), (Nat.le_of_ble_eq_true rfl)⟩ rfl (cs_use (cs_Mo_decision hr (by omega) (fun M hS => ?_)) hS)
    refine jj_if_ne (tgt := 79) dd_Mo_decide_34 (by decide) (fun h34 => ?_) (fun h34 => ?_)
    · skip
      refine jj_aload_n 1 dd_Mo_decide_79 rfl ?_
      refine jj_rS (n := 86) hS dd_Mo_decide_80 ff_Mo_75 rfl (fun _ => rfl) rfl ?_
      refine jj_iload_n 2 dd_Mo_decide_83 rfl ?_
      refine jj_iconst (v := 1) dd_Mo_decide_84 rfl ?_
      refine jj_zsS hS dd_Mo_decide_85 rfl (vp_in_nI (n := c) (by omega) (by decide)) rfl (c) (nI_clamp (n := c) (by omega)) (fun M hS => ?_)
      refine jj_aload_n 1 dd_Mo_decide_86 rfl ?_
      refine jj_iload_n 2 dd_Mo_decide_87 rfl ?_
      refine jj_iconst (v := 1) dd_Mo_decide_88 rfl ?_
      refine jj_callV (ci := 7) [_, _] [] 0 0 dd_Mo_decide_89 cs_Mo_161 ci_Mo_161 (hS.1.1 60 _ rfl) ⟨by decide, rfl⟩ rfl (Nat.le_of_ble_eq_true rfl) ⟨(Nat.le_of_ble_eq_true rfl), (Nat.le_of_ble_eq_true rfl)⟩ ⟨(Nat.le_of_ble_eq_true rfl), (Nat.le_of_ble_eq_true rfl)⟩ rfl (cs_use (cs_Mo_nextCell (c := c) hc (fun M hS => ?_)) hS)
      refine jj_bipush (v := 12) dd_Mo_decide_92 rfl ?_
      refine jj_icmp_ne (tgt := 106) dd_Mo_decide_94 (by decide) (fun h94 => ?_) (fun h94 => ?_)
      · skip
        refine jj_iconst (v := 3) dd_Mo_decide_106 rfl ?_
        refine jj_iret dd_Mo_decide_107 rfl rfl ?_
        rw [if_pos h14, if_neg h34, if_neg h94] at hQ
        exact ⟨_, hS, hQ⟩
      · skip
        refine jj_aload_n 1 dd_Mo_decide_97 rfl ?_
        refine jj_iload_n 2 dd_Mo_decide_98 rfl ?_
        refine jj_iconst (v := 4) dd_Mo_decide_99 rfl ?_
        refine jj_callV (ci := 7) [_, _] [] 0 0 dd_Mo_decide_100 cs_Mo_158 ci_Mo_158 (hS.1.1 60 _ rfl) ⟨by decide, rfl⟩ rfl (Nat.le_of_ble_eq_true rfl) ⟨(Nat.le_of_ble_eq_true rfl), (Nat.le_of_ble_eq_true rfl)⟩ ⟨(Nat.le_of_ble_eq_true rfl), (Nat.le_of_ble_eq_true rfl)⟩ rfl (cs_use (cs_Mo_ends (c := c) hc (fun M hS => ?_)) hS)
        refine jj_goto (tgt := 107) dd_Mo_decide_103 (by decide) ?_
        refine jj_iret dd_Mo_decide_107 rfl rfl ?_
        rw [if_pos h14, if_neg h34, if_pos h94] at hQ
        exact ⟨_, hS, hQ⟩
    · skip
      refine jj_aload_n 1 dd_Mo_decide_37 rfl ?_
      refine jj_rS (n := 65) hS dd_Mo_decide_38 ff_Mo_13 rfl (fun _ => rfl) rfl ?_
      refine jj_iload_n 0 dd_Mo_decide_41 rfl ?_
      refine jj_aS hS dd_Mo_decide_42 rfl (vp_in_nI (n := fi_ S.1 c) (by omega) (by decide)) (fi_ S.1 c) (nI_clamp (n := fi_ S.1 c) (by omega)) ?_
      refine jj_aload_n 1 dd_Mo_decide_43 rfl ?_
      refine jj_rS (n := 84) hS dd_Mo_decide_44 ff_Mo_69 rfl (fun _ => rfl) rfl ?_
      refine jj_iload_n 2 dd_Mo_decide_47 rfl ?_
      refine jj_aS hS dd_Mo_decide_48 rfl (vp_in_nI (n := c) (by omega) (by decide)) (c) (nI_clamp (n := c) (by omega)) ?_
      refine jj_icmp_eq (tgt := 59) dd_Mo_decide_49 (by decide) (fun h49 => ?_) (fun h49 => ?_)
      · skip
        refine jj_aload_n 1 dd_Mo_decide_59 rfl ?_
        refine jj_iload_n 0 dd_Mo_decide_60 rfl ?_
        refine jj_aload_n 1 dd_Mo_decide_61 rfl ?_
        refine jj_rS (n := 85) hS dd_Mo_decide_62 ff_Mo_72 rfl (fun _ => rfl) rfl ?_
        refine jj_iload_n 2 dd_Mo_decide_65 rfl ?_
        refine jj_aS hS dd_Mo_decide_66 rfl (vp_in_nI (n := c) (by omega) (by decide)) (c) (nI_clamp (n := c) (by omega)) ?_
        refine jj_callV (ci := 7) [_, _] [] 0 0 dd_Mo_decide_67 cs_Mo_117 ci_Mo_117 (hS.1.1 60 _ rfl) ⟨by decide, rfl⟩ rfl (Nat.le_of_ble_eq_true rfl) ⟨(Nat.le_of_ble_eq_true rfl), (Nat.le_of_ble_eq_true rfl)⟩ ⟨(Nat.le_of_ble_eq_true rfl), (Nat.le_of_ble_eq_true rfl)⟩ rfl (cs_use (cs_Mo_done (i := fi_ S.1 c) (by omega) hr (by omega) (fun M hS => ?_)) hS)
        refine jj_if_ne (tgt := 79) dd_Mo_decide_70 (by decide) (fun h70 => ?_) (fun h70 => ?_)
        · skip
          refine jj_aload_n 1 dd_Mo_decide_79 rfl ?_
          refine jj_rS (n := 86) hS dd_Mo_decide_80 ff_Mo_75 rfl (fun _ => rfl) rfl ?_
          refine jj_iload_n 2 dd_Mo_decide_83 rfl ?_
          refine jj_iconst (v := 1) dd_Mo_decide_84 rfl ?_
          refine jj_zsS hS dd_Mo_decide_85 rfl (vp_in_nI (n := c) (by omega) (by decide)) rfl (c) (nI_clamp (n := c) (by omega)) (fun M hS => ?_)
          refine jj_aload_n 1 dd_Mo_decide_86 rfl ?_
          refine jj_iload_n 2 dd_Mo_decide_87 rfl ?_
          refine jj_iconst (v := 1) dd_Mo_decide_88 rfl ?_
          refine jj_callV (ci := 7) [_, _] [] 0 0 dd_Mo_decide_89 cs_Mo_161 ci_Mo_161 (hS.1.1 60 _ rfl) ⟨by decide, rfl⟩ rfl (Nat.le_of_ble_eq_true rfl) ⟨(Nat.le_of_ble_eq_true rfl), (Nat.le_of_ble_eq_true rfl)⟩ ⟨(Nat.le_of_ble_eq_true rfl), (Nat.le_of_ble_eq_true rfl)⟩ rfl (cs_use (cs_Mo_nextCell (c := c) hc (fun M hS => ?_)) hS)
          refine jj_bipush (v := 12) dd_Mo_decide_92 rfl ?_
          refine jj_icmp_ne (tgt := 106) dd_Mo_decide_94 (by decide) (fun h94 => ?_) (fun h94 => ?_)
          · skip
            refine jj_iconst (v := 3) dd_Mo_decide_106 rfl ?_
            refine jj_iret dd_Mo_decide_107 rfl rfl ?_
            rw [if_pos h14, if_pos h34, if_pos h49, if_neg h70, if_neg h94] at hQ
            exact ⟨_, hS, hQ⟩
          · skip
            refine jj_aload_n 1 dd_Mo_decide_97 rfl ?_
            refine jj_iload_n 2 dd_Mo_decide_98 rfl ?_
            refine jj_iconst (v := 4) dd_Mo_decide_99 rfl ?_
            refine jj_callV (ci := 7) [_, _] [] 0 0 dd_Mo_decide_100 cs_Mo_158 ci_Mo_158 (hS.1.1 60 _ rfl) ⟨by decide, rfl⟩ rfl (Nat.le_of_ble_eq_true rfl) ⟨(Nat.le_of_ble_eq_true rfl), (Nat.le_of_ble_eq_true rfl)⟩ ⟨(Nat.le_of_ble_eq_true rfl), (Nat.le_of_ble_eq_true rfl)⟩ rfl (cs_use (cs_Mo_ends (c := c) hc (fun M hS => ?_)) hS)
            refine jj_goto (tgt := 107) dd_Mo_decide_103 (by decide) ?_
            refine jj_iret dd_Mo_decide_107 rfl rfl ?_
            rw [if_pos h14, if_pos h34, if_pos h49, if_neg h70, if_pos h94] at hQ
            exact ⟨_, hS, hQ⟩
        · skip
          refine jj_aload_n 1 dd_Mo_decide_73 rfl ?_
          refine jj_iconst (v := 3) dd_Mo_decide_74 rfl ?_
          refine jj_callV (ci := 7) [_] [] 0 0 dd_Mo_decide_75 cs_Mo_134 ci_Mo_134 (hS.1.1 60 _ rfl) ⟨by decide, rfl⟩ rfl (Nat.le_of_ble_eq_true rfl) ⟨(Nat.le_of_ble_eq_true rfl), (Nat.le_of_ble_eq_true rfl)⟩ ⟨(Nat.le_of_ble_eq_true rfl), (Nat.le_of_ble_eq_true rfl)⟩ rfl (cs_use (cs_Mo_fails (fun M hS => ?_)) hS)
          refine jj_iret dd_Mo_decide_78 rfl rfl ?_
          rw [if_pos h14, if_pos h34, if_pos h49, if_pos h70] at hQ
          exact ⟨_, hS, hQ⟩
      · skip
        refine jj_aload_n 1 dd_Mo_decide_52 rfl ?_
        refine jj_iload_n 2 dd_Mo_decide_53 rfl ?_
        refine jj_iconst (v := 0) dd_Mo_decide_54 rfl ?_
        refine jj_callV (ci := 7) [_, _] [] 0 0 dd_Mo_decide_55 cs_Mo_158 ci_Mo_158 (hS.1.1 60 _ rfl) ⟨by decide, rfl⟩ rfl (Nat.le_of_ble_eq_true rfl) ⟨(Nat.le_of_ble_eq_true rfl), (Nat.le_of_ble_eq_true rfl)⟩ ⟨(Nat.le_of_ble_eq_true rfl), (Nat.le_of_ble_eq_true rfl)⟩ rfl (cs_use (cs_Mo_ends (c := c) hc (fun M hS => ?_)) hS)
        refine jj_iret dd_Mo_decide_58 rfl rfl ?_
        rw [if_pos h14, if_pos h34, if_neg h49] at hQ
        exact ⟨_, hS, hQ⟩
  · skip
    refine jj_aload_n 1 dd_Mo_decide_17 rfl ?_
    refine jj_iconst (v := 3) dd_Mo_decide_18 rfl ?_
    refine jj_callV (ci := 7) [_] [] 0 0 dd_Mo_decide_19 cs_Mo_134 ci_Mo_134 (hS.1.1 60 _ rfl) ⟨by decide, rfl⟩ rfl (Nat.le_of_ble_eq_true rfl) ⟨(Nat.le_of_ble_eq_true rfl), (Nat.le_of_ble_eq_true rfl)⟩ ⟨(Nat.le_of_ble_eq_true rfl), (Nat.le_of_ble_eq_true rfl)⟩ rfl (cs_use (cs_Mo_fails (fun M hS => ?_)) hS)
    refine jj_iret dd_Mo_decide_22 rfl rfl ?_
    rw [if_neg h14] at hQ
    exact ⟨_, hS, hQ⟩
set_option maxRecDepth 20000 in
theorem cs_Mo_follow {l : Launch} {g : Nat → Nat} {S : ss_} {Q : Option Value → ss_ → Prop} {c : Nat} (hc : c < 4) (hn : nx_ S.1 c 1 < 12) (hr : S.1 60 11 = nI (rec_ S.1)) (hr2 : rec_ S.1 < 1538) (hQ : fo_ S.1 c (fun r F => Q (some (.int r)) (F, S.2))) : cs_ l yy_Mo_follow bb_Mo_follow 3 (some .int) 2 0 0 g [.ref (g 60), .int (nI c)] S Q := by
  intro M hS
  refine ct_of (by decide) (Nat.le_of_ble_eq_true rfl) (fun G A => ?_)
  unfold fo_ fx_ at hQ
  refine jj_aload_n 0 dd_Mo_follow_0 rfl ?_
  refine jj_iload_n 1 dd_Mo_follow_1 rfl ?_
  refine jj_iconst (v := 1) dd_Mo_follow_2 rfl ?_
  refine jj_callV (ci := 7) [_, _] [] 0 0 dd_Mo_follow_3 cs_Mo_161 ci_Mo_161 (hS.1.1 60 _ rfl) ⟨by decide, rfl⟩ rfl (Nat.le_of_ble_eq_true rfl) ⟨(Nat.le_of_ble_eq_true rfl), (Nat.le_of_ble_eq_true rfl)⟩ ⟨(Nat.le_of_ble_eq_true rfl), (Nat.le_of_ble_eq_true rfl)⟩ rfl (cs_use (cs_Mo_nextCell (c := c) hc (fun M hS => ?_)) hS)
  refine jj_istore_n (lv' := [(2, .int (nI (nx_ S.1 c 1))), (0, .ref (g 60)), (1, .int (nI (c)))]) dd_Mo_follow_6 (Nat.le_of_ble_eq_true rfl) rfl ?_
  refine jj_aload_n 1 dd_Mo_follow_7 rfl ?_
  refine jj_rS (n := 77) hS dd_Mo_follow_8 ff_Mo_47 rfl (fun _ => rfl) rfl ?_
  refine jj_iload_n 0 dd_Mo_follow_11 rfl ?_
  refine jj_iconst (v := 4) dd_Mo_follow_12 rfl ?_
  refine jj_idiv dd_Mo_follow_13 (by decide) ?_
  refine jj_ti (x' := nI ((nx_ S.1 c 1) / 4)) (pk_div (a := nx_ S.1 c 1) (d := 4) (by omega) (by decide) (by decide)) ?_
  refine jj_zS hS dd_Mo_follow_14 rfl (vp_in_nI (n := (nx_ S.1 c 1) / 4) (by omega) (by decide)) ((nx_ S.1 c 1) / 4) (nI_clamp (n := (nx_ S.1 c 1) / 4) (by omega)) ?_
  refine jj_if_eq (tgt := 24) dd_Mo_follow_15 (by decide) (fun h15 => ?_) (fun h15 => ?_)
  · skip
    refine jj_aload_n 1 dd_Mo_follow_24 rfl ?_
    refine jj_rS (n := 65) hS dd_Mo_follow_25 ff_Mo_13 rfl (fun _ => rfl) rfl ?_
    refine jj_iload_n 0 dd_Mo_follow_28 rfl ?_
    refine jj_aS hS dd_Mo_follow_29 rfl (vp_in_nI (n := nx_ S.1 c 1) (by omega) (by decide)) (nx_ S.1 c 1) (nI_clamp (n := nx_ S.1 c 1) (by omega)) ?_
    refine jj_aload_n 1 dd_Mo_follow_30 rfl ?_
    refine jj_rS (n := 84) hS dd_Mo_follow_31 ff_Mo_69 rfl (fun _ => rfl) rfl ?_
    refine jj_iload_n 2 dd_Mo_follow_34 rfl ?_
    refine jj_aS hS dd_Mo_follow_35 rfl (vp_in_nI (n := c) (by omega) (by decide)) (c) (nI_clamp (n := c) (by omega)) ?_
    refine jj_icmp_ne (tgt := 59) dd_Mo_follow_36 (by decide) (fun h36 => ?_) (fun h36 => ?_)
    · skip
      refine jj_aload_n 1 dd_Mo_follow_59 rfl ?_
      refine jj_rS (n := 90) hS dd_Mo_follow_60 ff_Mo_87 rfl (fun _ => rfl) rfl ?_
      refine jj_bipush (v := 12) dd_Mo_follow_63 rfl ?_
      refine jj_iload_n 2 dd_Mo_follow_65 rfl ?_
      refine jj_imul dd_Mo_follow_66 ?_
      refine jj_ti (x' := nI (12 * c)) (pk_mul (12) (c)) ?_
      refine jj_iload_n 0 dd_Mo_follow_67 rfl ?_
      refine jj_iadd dd_Mo_follow_68 ?_
      refine jj_ti (x' := nI ((12 * c) + (nx_ S.1 c 1))) (nI_add (12 * c) (nx_ S.1 c 1)) ?_
      refine jj_iconst (v := 1) dd_Mo_follow_69 rfl ?_
      refine jj_zsS hS dd_Mo_follow_70 rfl (vp_in_nI (n := (12 * c) + (nx_ S.1 c 1)) (by omega) (by decide)) rfl ((12 * c) + (nx_ S.1 c 1)) (nI_clamp (n := (12 * c) + (nx_ S.1 c 1)) (by omega)) (fun M hS => ?_)
      refine jj_aload_n 1 dd_Mo_follow_71 rfl ?_
      refine jj_iload_n 2 dd_Mo_follow_72 rfl ?_
      refine jj_iconst (v := 1) dd_Mo_follow_73 rfl ?_
      refine jj_callV (ci := 7) [_, _] [] 0 0 dd_Mo_follow_74 cs_Mo_161 ci_Mo_161 (hS.1.1 60 _ rfl) ⟨by decide, rfl⟩ rfl (Nat.le_of_ble_eq_true rfl) ⟨(Nat.le_of_ble_eq_true rfl), (Nat.le_of_ble_eq_true rfl)⟩ ⟨(Nat.le_of_ble_eq_true rfl), (Nat.le_of_ble_eq_true rfl)⟩ rfl (cs_use (cs_Mo_nextCell (c := c) hc (fun M hS => ?_)) hS)
      refine jj_bipush (v := 12) dd_Mo_follow_77 rfl ?_
      refine jj_icmp_ne (tgt := 92) dd_Mo_follow_79 (by decide) (fun h79 => ?_) (fun h79 => ?_)
      · skip
        refine jj_iconst (v := 5) dd_Mo_follow_92 rfl ?_
        refine jj_iret dd_Mo_follow_93 rfl rfl ?_
        rw [if_pos h15, if_neg h36, if_neg h79] at hQ
        exact ⟨_, hS, hQ⟩
      · skip
        refine jj_aload_n 1 dd_Mo_follow_82 rfl ?_
        refine jj_iload_n 2 dd_Mo_follow_83 rfl ?_
        refine jj_bipush (v := 6) dd_Mo_follow_84 rfl ?_
        refine jj_callV (ci := 7) [_, _] [] 0 0 dd_Mo_follow_86 cs_Mo_158 ci_Mo_158 (hS.1.1 60 _ rfl) ⟨by decide, rfl⟩ rfl (Nat.le_of_ble_eq_true rfl) ⟨(Nat.le_of_ble_eq_true rfl), (Nat.le_of_ble_eq_true rfl)⟩ ⟨(Nat.le_of_ble_eq_true rfl), (Nat.le_of_ble_eq_true rfl)⟩ rfl (cs_use (cs_Mo_ends (c := c) hc (fun M hS => ?_)) hS)
        refine jj_goto (tgt := 93) dd_Mo_follow_89 (by decide) ?_
        refine jj_iret dd_Mo_follow_93 rfl rfl ?_
        rw [if_pos h15, if_neg h36, if_pos h79] at hQ
        exact ⟨_, hS, hQ⟩
    · skip
      refine jj_aload_n 1 dd_Mo_follow_39 rfl ?_
      refine jj_iload_n 0 dd_Mo_follow_40 rfl ?_
      refine jj_aload_n 1 dd_Mo_follow_41 rfl ?_
      refine jj_rS (n := 85) hS dd_Mo_follow_42 ff_Mo_72 rfl (fun _ => rfl) rfl ?_
      refine jj_iload_n 2 dd_Mo_follow_45 rfl ?_
      refine jj_aS hS dd_Mo_follow_46 rfl (vp_in_nI (n := c) (by omega) (by decide)) (c) (nI_clamp (n := c) (by omega)) ?_
      refine jj_callV (ci := 7) [_, _] [] 0 0 dd_Mo_follow_47 cs_Mo_117 ci_Mo_117 (hS.1.1 60 _ rfl) ⟨by decide, rfl⟩ rfl (Nat.le_of_ble_eq_true rfl) ⟨(Nat.le_of_ble_eq_true rfl), (Nat.le_of_ble_eq_true rfl)⟩ ⟨(Nat.le_of_ble_eq_true rfl), (Nat.le_of_ble_eq_true rfl)⟩ rfl (cs_use (cs_Mo_done (i := nx_ S.1 c 1) hn hr (by omega) (fun M hS => ?_)) hS)
      refine jj_if_ne (tgt := 59) dd_Mo_follow_50 (by decide) (fun h50 => ?_) (fun h50 => ?_)
      · skip
        refine jj_aload_n 1 dd_Mo_follow_59 rfl ?_
        refine jj_rS (n := 90) hS dd_Mo_follow_60 ff_Mo_87 rfl (fun _ => rfl) rfl ?_
        refine jj_bipush (v := 12) dd_Mo_follow_63 rfl ?_
        refine jj_iload_n 2 dd_Mo_follow_65 rfl ?_
        refine jj_imul dd_Mo_follow_66 ?_
        refine jj_ti (x' := nI (12 * c)) (pk_mul (12) (c)) ?_
        refine jj_iload_n 0 dd_Mo_follow_67 rfl ?_
        refine jj_iadd dd_Mo_follow_68 ?_
        refine jj_ti (x' := nI ((12 * c) + (nx_ S.1 c 1))) (nI_add (12 * c) (nx_ S.1 c 1)) ?_
        refine jj_iconst (v := 1) dd_Mo_follow_69 rfl ?_
        refine jj_zsS hS dd_Mo_follow_70 rfl (vp_in_nI (n := (12 * c) + (nx_ S.1 c 1)) (by omega) (by decide)) rfl ((12 * c) + (nx_ S.1 c 1)) (nI_clamp (n := (12 * c) + (nx_ S.1 c 1)) (by omega)) (fun M hS => ?_)
        refine jj_aload_n 1 dd_Mo_follow_71 rfl ?_
        refine jj_iload_n 2 dd_Mo_follow_72 rfl ?_
        refine jj_iconst (v := 1) dd_Mo_follow_73 rfl ?_
        refine jj_callV (ci := 7) [_, _] [] 0 0 dd_Mo_follow_74 cs_Mo_161 ci_Mo_161 (hS.1.1 60 _ rfl) ⟨by decide, rfl⟩ rfl (Nat.le_of_ble_eq_true rfl) ⟨(Nat.le_of_ble_eq_true rfl), (Nat.le_of_ble_eq_true rfl)⟩ ⟨(Nat.le_of_ble_eq_true rfl), (Nat.le_of_ble_eq_true rfl)⟩ rfl (cs_use (cs_Mo_nextCell (c := c) hc (fun M hS => ?_)) hS)
        refine jj_bipush (v := 12) dd_Mo_follow_77 rfl ?_
        refine jj_icmp_ne (tgt := 92) dd_Mo_follow_79 (by decide) (fun h79 => ?_) (fun h79 => ?_)
        · skip
          refine jj_iconst (v := 5) dd_Mo_follow_92 rfl ?_
          refine jj_iret dd_Mo_follow_93 rfl rfl ?_
          rw [if_pos h15, if_pos h36, if_neg h50, if_neg h79] at hQ
          exact ⟨_, hS, hQ⟩
        · skip
          refine jj_aload_n 1 dd_Mo_follow_82 rfl ?_
          refine jj_iload_n 2 dd_Mo_follow_83 rfl ?_
          refine jj_bipush (v := 6) dd_Mo_follow_84 rfl ?_
          refine jj_callV (ci := 7) [_, _] [] 0 0 dd_Mo_follow_86 cs_Mo_158 ci_Mo_158 (hS.1.1 60 _ rfl) ⟨by decide, rfl⟩ rfl (Nat.le_of_ble_eq_true rfl) ⟨(Nat.le_of_ble_eq_true rfl), (Nat.le_of_ble_eq_true rfl)⟩ ⟨(Nat.le_of_ble_eq_true rfl), (Nat.le_of_ble_eq_true rfl)⟩ rfl (cs_use (cs_Mo_ends (c := c) hc (fun M hS => ?_)) hS)
          refine jj_goto (tgt := 93) dd_Mo_follow_89 (by decide) ?_
          refine jj_iret dd_Mo_follow_93 rfl rfl ?_
          rw [if_pos h15, if_pos h36, if_neg h50, if_pos h79] at hQ
          exact ⟨_, hS, hQ⟩
      · skip
        refine jj_aload_n 1 dd_Mo_follow_53 rfl ?_
        refine jj_iconst (v := 3) dd_Mo_follow_54 rfl ?_
        refine jj_callV (ci := 7) [_] [] 0 0 dd_Mo_follow_55 cs_Mo_134 ci_Mo_134 (hS.1.1 60 _ rfl) ⟨by decide, rfl⟩ rfl (Nat.le_of_ble_eq_true rfl) ⟨(Nat.le_of_ble_eq_true rfl), (Nat.le_of_ble_eq_true rfl)⟩ ⟨(Nat.le_of_ble_eq_true rfl), (Nat.le_of_ble_eq_true rfl)⟩ rfl (cs_use (cs_Mo_fails (fun M hS => ?_)) hS)
        refine jj_iret dd_Mo_follow_58 rfl rfl ?_
        rw [if_pos h15, if_pos h36, if_pos h50] at hQ
        exact ⟨_, hS, hQ⟩
  · skip
    refine jj_aload_n 1 dd_Mo_follow_18 rfl ?_
    refine jj_iconst (v := 3) dd_Mo_follow_19 rfl ?_
    refine jj_callV (ci := 7) [_] [] 0 0 dd_Mo_follow_20 cs_Mo_134 ci_Mo_134 (hS.1.1 60 _ rfl) ⟨by decide, rfl⟩ rfl (Nat.le_of_ble_eq_true rfl) ⟨(Nat.le_of_ble_eq_true rfl), (Nat.le_of_ble_eq_true rfl)⟩ ⟨(Nat.le_of_ble_eq_true rfl), (Nat.le_of_ble_eq_true rfl)⟩ rfl (cs_use (cs_Mo_fails (fun M hS => ?_)) hS)
    refine jj_iret dd_Mo_follow_23 rfl rfl ?_
    rw [if_neg h15] at hQ
    exact ⟨_, hS, hQ⟩
