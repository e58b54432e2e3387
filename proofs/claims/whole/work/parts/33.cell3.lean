set_option maxRecDepth 20000 in
theorem ct_Ce_forgetBefore {l : Launch} {M : mm_M} {Q : Option Value → mm_M → Prop} {g : Nat → Nat} {S : ss_} {i : Nat} (hS : rp_ g M S) (hi : i < 12) {x : Int32} (hQ : ∀ M', rp_ g M' (uf_ S.1 (20 + i) 3 (fg_ x (S.2.2 i) 0 (S.1 (20 + i) 3)).2, S.2.1, up_ S.2.2 i (fg_ x (S.2.2 i) 0 (S.1 (20 + i) 3)).1) → Q none M') : ct_ l yy_Ce_forgetBefore bb_Ce_forgetBefore 6 none 1 0 0 [.ref (g (20 + i)), .int x] M Q := by
  refine ct_of (by decide) (Nat.le_of_ble_eq_true rfl) (fun G A => ?_)
  have loop : ∀ (rs ps : List Nat) (e lt : Option Nat) (z k : Int32) (M : mm_M), rp_ g M (uf_ S.1 (20 + i) 3 k, S.2.1, up_ S.2.2 i ((ps ++ rs).map (vv_of M))) → ch_ M (mm_r M (g (20 + i)) 2) (ps ++ rs) → sg_ M (mm_r M (g (20 + i)) 2) ps e → ch_ M e rs → (ps ++ rs).Nodup → ((lt = none ∧ ps = []) ∨ ∃ p qs, lt = some p ∧ ps = qs ++ [p]) → (∀ M', rp_ g M' (uf_ S.1 (20 + i) 3 (fg_ x (rs.map (vv_of M)) z k).2, S.2.1, up_ S.2.2 i (ps.map (vv_of M) ++ (fg_ x (rs.map (vv_of M)) z k).1)) → Q none M') → jj_ l yy_Ce_forgetBefore bb_Ce_forgetBefore 6 none G (mm_R 1 0 0) A (mm_ret Q) 0 0 10 [(4, va_rf e), (3, .int (z)), (2, va_rf lt), (0, .ref (g (20 + i))), (1, .int (x))] [] M := by
    intro rs
    induction rs with
    | nil =>
      intro ps e lt z k M hS hc hsg hch hnd hlt hQ
      cases e with
      | some b => exact hch.elim
      | none =>
        refine jj_aloadN 0 dd_Ce_forgetBefore_10 rfl ?_
        refine jj_ifnullN (tgt := 92) dd_Ce_forgetBefore_12 (by decide) ?_
        refine jj_vret dd_Ce_forgetBefore_92 rfl ?_
        rw [List.append_nil] at hS
        exact hQ _ (by rw [List.map_nil, show (fg_ x [] z k) = ([], k) from rfl, List.append_nil]; exact hS)
    | cons b rs ih =>
      intro ps e lt z k M hS hc hsg hch hnd hlt hQ
      cases e with
      | none => exact hch.elim
      | some b2 =>
        have hch0 := hch
        obtain ⟨rfl, hbk, hch⟩ := hch
        rw [List.map_cons, vv_eq M b2, fg_cons] at hQ
        have hl := hS.1
        have hbn : ∀ n t, oo_k n = some t → b2 ≠ g n := fun n t h => rp_5ne hl hbk h
        have hcs : ch_ (mm_si M (g (20 + i)) 3 (mm_i M (g (20 + i)) 3 - 1)) (mm_r M (g (20 + i)) 2) (ps ++ b2 :: rs) := ch_si hc
        have hchs : ch_ (mm_si M (g (20 + i)) 3 (mm_i M (g (20 + i)) 3 - 1)) (mm_r M b2 4) rs := ch_si hch
        have ek : mm_i M (g (20 + i)) 3 = k := by rw [hS.2.1 _ _ (ok_c hi)]; show uf_ S.1 (20 + i) 3 k (20 + i) 3 = k; rw [uf_at, if_pos ⟨rfl, rfl⟩]
        have hSs := rp_si (j := 3) (x := mm_i M (g (20 + i)) 3 - 1) hS (ok_c hi)
        rcases hlt with ⟨rfl, rfl⟩ | ⟨p, qs, rfl, rfl⟩
        · skip
          refine jj_aload 0 dd_Ce_forgetBefore_10 rfl ?_
          refine jj_ifnull dd_Ce_forgetBefore_12 ?_
          refine jj_aload 0 dd_Ce_forgetBefore_15 rfl ?_
          refine jj_geti dd_Ce_forgetBefore_17 ff_Ce_65 hbk (fun _ => rfl) ?_
          refine jj_iload_n 4 dd_Ce_forgetBefore_20 rfl ?_
          refine jj_icmp_ge (tgt := 41) dd_Ce_forgetBefore_21 (by decide) (fun h21 => ?_) (fun h21 => ?_)
          · skip
            refine jj_iconst (v := 0) dd_Ce_forgetBefore_41 rfl ?_
            refine jj_istore (lv' := [(5, .int (0)), (4, .ref b2), (3, .int (z)), (2, .null), (0, .ref (g (20 + i))), (1, .int (x))]) dd_Ce_forgetBefore_42 (Nat.le_of_ble_eq_true rfl) rfl ?_
            refine jj_aload 1 dd_Ce_forgetBefore_44 rfl ?_
            refine jj_geti dd_Ce_forgetBefore_46 ff_Ce_65 hbk (fun _ => rfl) ?_
            refine jj_iload_n 5 dd_Ce_forgetBefore_49 rfl ?_
            refine jj_icmp_ge (tgt := 64) dd_Ce_forgetBefore_50 (by decide) (fun h50 => ?_) (fun h50 => ?_)
            · skip
              refine jj_iload 0 dd_Ce_forgetBefore_64 rfl ?_
              refine jj_if_eq (tgt := 79) dd_Ce_forgetBefore_66 (by decide) (fun _ => ?_) (fun h => absurd h (by decide))
              refine jj_aload 1 dd_Ce_forgetBefore_79 rfl ?_
              refine jj_astore_n (lv' := [(2, .ref b2), (5, .int (0)), (4, .ref b2), (3, .int (z)), (0, .ref (g (20 + i))), (1, .int (x))]) dd_Ce_forgetBefore_81 (Nat.le_of_ble_eq_true rfl) rfl ?_
              refine jj_aload 2 dd_Ce_forgetBefore_82 rfl ?_
              refine jj_getr dd_Ce_forgetBefore_84 ff_Ce_68 hbk (fun _ => rfl) (mm_r M b2 4) rfl ?_
              refine jj_astoreR (lv' := [(4, va_rf (mm_r M b2 4)), (2, .ref b2), (5, .int (0)), (3, .int (z)), (0, .ref (g (20 + i))), (1, .int (x))]) dd_Ce_forgetBefore_87 (Nat.le_of_ble_eq_true rfl) rfl ?_
              refine jj_goto (tgt := 10) dd_Ce_forgetBefore_89 (by decide) ?_
              refine jj_sub [0, 3, 1, 4, 5] rfl ?_
              rw [if_pos h21] at hQ
              exact ih ([] ++ [b2]) _ (some b2) _ _ M (by rw [List.append_assoc]; exact hS) (by rw [List.append_assoc]; exact hc) (sg_app.mpr ⟨some b2, hsg, rfl, hbk, rfl⟩) hch (by rw [List.append_assoc]; exact hnd) (Or.inr ⟨b2, [], rfl, rfl⟩) (fun M2 h => hQ M2 (by rw [List.map_append, List.append_assoc] at h; exact h))
            · exact absurd h21 h50
          · skip
            refine jj_aload 0 dd_Ce_forgetBefore_24 rfl ?_
            refine jj_geti dd_Ce_forgetBefore_26 ff_Ce_61 hbk (fun _ => rfl) ?_
            refine jj_iconst (v := 1) dd_Ce_forgetBefore_29 rfl ?_
            refine jj_icmp_ne (tgt := 37) dd_Ce_forgetBefore_30 (by decide) (fun h30 => ?_) (fun h30 => ?_)
            · skip
              refine jj_iconst (v := 1) dd_Ce_forgetBefore_37 rfl ?_
              refine jj_goto (tgt := 42) dd_Ce_forgetBefore_38 (by decide) ?_
              refine jj_istore (lv' := [(5, .int (1)), (4, .ref b2), (3, .int (z)), (2, .null), (0, .ref (g (20 + i))), (1, .int (x))]) dd_Ce_forgetBefore_42 (Nat.le_of_ble_eq_true rfl) rfl ?_
              refine jj_aload 1 dd_Ce_forgetBefore_44 rfl ?_
              refine jj_geti dd_Ce_forgetBefore_46 ff_Ce_65 hbk (fun _ => rfl) ?_
              refine jj_iload_n 5 dd_Ce_forgetBefore_49 rfl ?_
              refine jj_icmp_ge (tgt := 64) dd_Ce_forgetBefore_50 (by decide) (fun h50 => ?_) (fun h50 => ?_)
              · exact absurd h50 h21
              · skip
                refine jj_aload 1 dd_Ce_forgetBefore_53 rfl ?_
                refine jj_geti dd_Ce_forgetBefore_55 ff_Ce_61 hbk (fun _ => rfl) ?_
                refine jj_iconst (v := 3) dd_Ce_forgetBefore_58 rfl ?_
                refine jj_icmp_eq (tgt := 64) dd_Ce_forgetBefore_59 (by decide) (fun h59 => ?_) (fun h59 => ?_)
                · skip
                  refine jj_iload 0 dd_Ce_forgetBefore_64 rfl ?_
                  refine jj_if_eq (tgt := 79) dd_Ce_forgetBefore_66 (by decide) (fun h => absurd h (by decide)) (fun _ => ?_)
                  refine jj_aload_n 4 dd_Ce_forgetBefore_69 rfl ?_
                  refine jj_aload_nN 3 dd_Ce_forgetBefore_70 rfl ?_
                  refine jj_aload 1 dd_Ce_forgetBefore_71 rfl ?_
                  refine jj_callV (ci := 3) [_, .ref b2] [] 0 0 dd_Ce_forgetBefore_73 cs_Ce_71 ci_Ce_71 (hS.1.1 _ _ (ok_c hi)) ⟨by decide, rfl⟩ rfl (Nat.le_of_ble_eq_true rfl) ⟨(Nat.le_of_ble_eq_true rfl), (Nat.le_of_ble_eq_true rfl)⟩ ⟨(Nat.le_of_ble_eq_true rfl), (Nat.le_of_ble_eq_true rfl)⟩ rfl (ct_Ce_removeBehind0 (hS.1.1 _ _ (ok_c hi)) hbk ?_)
                  obtain ⟨M1, hM1⟩ : ∃ M1, M1 = mm_sr (mm_si M (g (20 + i)) 3 (mm_i M (g (20 + i)) 3 - 1)) (g (20 + i)) 2 (mm_r M b2 4) := ⟨_, rfl⟩
                  rw [← hM1]
                  have hnd2 : ([] ++ rs).Nodup := (List.nodup_cons.mp hnd).2
                  have hS2 : rp_ g M1 (uf_ S.1 (20 + i) 3 (k - 1), S.2.1, up_ S.2.2 i (([] ++ rs).map (vv_of M1))) := by
                    have h2 := rp_sroot hSs hi hcs hchs (List.nodup_cons.mp hnd).2 (fun a ha => Or.inl (List.mem_cons_of_mem _ ha))
                    rw [hM1]
                    simp only [uf_uf, up_up, ek] at h2 ⊢
                    exact h2
                  have er : mm_r M1 (g (20 + i)) 2 = mm_r M b2 4 := by rw [hM1, mm_r_sr, if_pos ⟨rfl, rfl⟩]
                  have ea : ∀ a, a ∈ b2 :: rs → mm_r M1 a 4 = mm_r M a 4 := fun a ha => by rw [hM1, mm_r_sr, if_neg (fun z => absurd z.2 (by decide))]; rfl
                  have hch2 : ch_ M1 (mm_r M b2 4) rs := ch_sg.mpr (sg_frame (M := M) (fun a ha => ⟨by rw [hM1]; rfl, ea a (List.mem_cons_of_mem _ ha)⟩) (ch_sg.mp hch))
                  have hsg2 : sg_ M1 (mm_r M1 (g (20 + i)) 2) [] (mm_r M b2 4) := er
                  have hc2 : ch_ M1 (mm_r M1 (g (20 + i)) 2) ([] ++ rs) := by rw [er]; exact hch2
                  have hbk2 : mm_k M1 b2 = some (.inl 5) := by rw [hM1]; exact hbk
                  have evv : rs.map (vv_of M1) = rs.map (vv_of M) := List.map_congr_left (fun a ha => by
                    have hne : a ≠ g (20 + i) := rp_5ne hl (ch_kind hch a ha) (ok_c hi)
                    rw [vv_eq, vv_eq, hM1]
                    simp only [mm_i_sr, mm_i_si]
                    simp [hne])
                  rw [← evv] at hQ
                  refine jj_goto (tgt := 82) dd_Ce_forgetBefore_76 (by decide) ?_
                  refine jj_aload 1 dd_Ce_forgetBefore_82 rfl ?_
                  refine jj_getr dd_Ce_forgetBefore_84 ff_Ce_68 hbk2 (fun _ => rfl) (mm_r M b2 4) (ea b2 (List.mem_cons_self ..)) ?_
                  refine jj_astoreR (lv' := [(4, va_rf (mm_r M b2 4)), (5, .int (1)), (3, .int (z)), (2, .null), (0, .ref (g (20 + i))), (1, .int (x))]) dd_Ce_forgetBefore_87 (Nat.le_of_ble_eq_true rfl) rfl ?_
                  refine jj_goto (tgt := 10) dd_Ce_forgetBefore_89 (by decide) ?_
                  refine jj_sub [0, 2, 3, 4, 5] rfl ?_
                  rw [if_neg h21, if_neg h30, if_pos h59] at hQ
                  exact ih [] _ none _ _ M1 hS2 hc2 hsg2 hch2 hnd2 (Or.inl ⟨rfl, rfl⟩) hQ
                · skip
                  refine jj_iconst (v := 1) dd_Ce_forgetBefore_62 rfl ?_
                  refine jj_istore_n (lv' := [(3, .int (1)), (5, .int (1)), (4, .ref b2), (2, .null), (0, .ref (g (20 + i))), (1, .int (x))]) dd_Ce_forgetBefore_63 (Nat.le_of_ble_eq_true rfl) rfl ?_
                  refine jj_iload 1 dd_Ce_forgetBefore_64 rfl ?_
                  refine jj_if_eq (tgt := 79) dd_Ce_forgetBefore_66 (by decide) (fun h => absurd h (by decide)) (fun _ => ?_)
                  refine jj_aload_n 4 dd_Ce_forgetBefore_69 rfl ?_
                  refine jj_aload_nN 3 dd_Ce_forgetBefore_70 rfl ?_
                  refine jj_aload 2 dd_Ce_forgetBefore_71 rfl ?_
                  refine jj_callV (ci := 3) [_, .ref b2] [] 0 0 dd_Ce_forgetBefore_73 cs_Ce_71 ci_Ce_71 (hS.1.1 _ _ (ok_c hi)) ⟨by decide, rfl⟩ rfl (Nat.le_of_ble_eq_true rfl) ⟨(Nat.le_of_ble_eq_true rfl), (Nat.le_of_ble_eq_true rfl)⟩ ⟨(Nat.le_of_ble_eq_true rfl), (Nat.le_of_ble_eq_true rfl)⟩ rfl (ct_Ce_removeBehind0 (hS.1.1 _ _ (ok_c hi)) hbk ?_)
                  obtain ⟨M1, hM1⟩ : ∃ M1, M1 = mm_sr (mm_si M (g (20 + i)) 3 (mm_i M (g (20 + i)) 3 - 1)) (g (20 + i)) 2 (mm_r M b2 4) := ⟨_, rfl⟩
                  rw [← hM1]
                  have hnd2 : ([] ++ rs).Nodup := (List.nodup_cons.mp hnd).2
                  have hS2 : rp_ g M1 (uf_ S.1 (20 + i) 3 (k - 1), S.2.1, up_ S.2.2 i (([] ++ rs).map (vv_of M1))) := by
                    have h2 := rp_sroot hSs hi hcs hchs (List.nodup_cons.mp hnd).2 (fun a ha => Or.inl (List.mem_cons_of_mem _ ha))
                    rw [hM1]
                    simp only [uf_uf, up_up, ek] at h2 ⊢
                    exact h2
                  have er : mm_r M1 (g (20 + i)) 2 = mm_r M b2 4 := by rw [hM1, mm_r_sr, if_pos ⟨rfl, rfl⟩]
                  have ea : ∀ a, a ∈ b2 :: rs → mm_r M1 a 4 = mm_r M a 4 := fun a ha => by rw [hM1, mm_r_sr, if_neg (fun z => absurd z.2 (by decide))]; rfl
                  have hch2 : ch_ M1 (mm_r M b2 4) rs := ch_sg.mpr (sg_frame (M := M) (fun a ha => ⟨by rw [hM1]; rfl, ea a (List.mem_cons_of_mem _ ha)⟩) (ch_sg.mp hch))
                  have hsg2 : sg_ M1 (mm_r M1 (g (20 + i)) 2) [] (mm_r M b2 4) := er
                  have hc2 : ch_ M1 (mm_r M1 (g (20 + i)) 2) ([] ++ rs) := by rw [er]; exact hch2
                  have hbk2 : mm_k M1 b2 = some (.inl 5) := by rw [hM1]; exact hbk
                  have evv : rs.map (vv_of M1) = rs.map (vv_of M) := List.map_congr_left (fun a ha => by
                    have hne : a ≠ g (20 + i) := rp_5ne hl (ch_kind hch a ha) (ok_c hi)
                    rw [vv_eq, vv_eq, hM1]
                    simp only [mm_i_sr, mm_i_si]
                    simp [hne])
                  rw [← evv] at hQ
                  refine jj_goto (tgt := 82) dd_Ce_forgetBefore_76 (by decide) ?_
                  refine jj_aload 2 dd_Ce_forgetBefore_82 rfl ?_
                  refine jj_getr dd_Ce_forgetBefore_84 ff_Ce_68 hbk2 (fun _ => rfl) (mm_r M b2 4) (ea b2 (List.mem_cons_self ..)) ?_
                  refine jj_astoreR (lv' := [(4, va_rf (mm_r M b2 4)), (3, .int (1)), (5, .int (1)), (2, .null), (0, .ref (g (20 + i))), (1, .int (x))]) dd_Ce_forgetBefore_87 (Nat.le_of_ble_eq_true rfl) rfl ?_
                  refine jj_goto (tgt := 10) dd_Ce_forgetBefore_89 (by decide) ?_
                  refine jj_sub [0, 1, 3, 4, 5] rfl ?_
                  rw [if_neg h21, if_neg h30, if_neg h59] at hQ
                  exact ih [] _ none _ _ M1 hS2 hc2 hsg2 hch2 hnd2 (Or.inl ⟨rfl, rfl⟩) hQ
            · skip
              refine jj_iload_n 1 dd_Ce_forgetBefore_33 rfl ?_
              refine jj_if_eq (tgt := 41) dd_Ce_forgetBefore_34 (by decide) (fun h34 => ?_) (fun h34 => ?_)
              · skip
                refine jj_iconst (v := 0) dd_Ce_forgetBefore_41 rfl ?_
                refine jj_istore (lv' := [(5, .int (0)), (4, .ref b2), (3, .int (z)), (2, .null), (0, .ref (g (20 + i))), (1, .int (x))]) dd_Ce_forgetBefore_42 (Nat.le_of_ble_eq_true rfl) rfl ?_
                refine jj_aload 1 dd_Ce_forgetBefore_44 rfl ?_
                refine jj_geti dd_Ce_forgetBefore_46 ff_Ce_65 hbk (fun _ => rfl) ?_
                refine jj_iload_n 5 dd_Ce_forgetBefore_49 rfl ?_
                refine jj_icmp_ge (tgt := 64) dd_Ce_forgetBefore_50 (by decide) (fun h50 => ?_) (fun h50 => ?_)
                · exact absurd h50 h21
                · skip
                  refine jj_aload 1 dd_Ce_forgetBefore_53 rfl ?_
                  refine jj_geti dd_Ce_forgetBefore_55 ff_Ce_61 hbk (fun _ => rfl) ?_
                  refine jj_iconst (v := 3) dd_Ce_forgetBefore_58 rfl ?_
                  refine jj_icmp_eq (tgt := 64) dd_Ce_forgetBefore_59 (by decide) (fun h59 => ?_) (fun h59 => ?_)
                  · exact absurd (h30.symm.trans h59) (by decide)
                  · skip
                    refine jj_iconst (v := 1) dd_Ce_forgetBefore_62 rfl ?_
                    refine jj_istore_n (lv' := [(3, .int (1)), (5, .int (0)), (4, .ref b2), (2, .null), (0, .ref (g (20 + i))), (1, .int (x))]) dd_Ce_forgetBefore_63 (Nat.le_of_ble_eq_true rfl) rfl ?_
                    refine jj_iload 1 dd_Ce_forgetBefore_64 rfl ?_
                    refine jj_if_eq (tgt := 79) dd_Ce_forgetBefore_66 (by decide) (fun _ => ?_) (fun h => absurd h (by decide))
                    refine jj_aload 2 dd_Ce_forgetBefore_79 rfl ?_
                    refine jj_astore_n (lv' := [(2, .ref b2), (3, .int (1)), (5, .int (0)), (4, .ref b2), (0, .ref (g (20 + i))), (1, .int (x))]) dd_Ce_forgetBefore_81 (Nat.le_of_ble_eq_true rfl) rfl ?_
                    refine jj_aload 3 dd_Ce_forgetBefore_82 rfl ?_
                    refine jj_getr dd_Ce_forgetBefore_84 ff_Ce_68 hbk (fun _ => rfl) (mm_r M b2 4) rfl ?_
                    refine jj_astoreR (lv' := [(4, va_rf (mm_r M b2 4)), (2, .ref b2), (3, .int (1)), (5, .int (0)), (0, .ref (g (20 + i))), (1, .int (x))]) dd_Ce_forgetBefore_87 (Nat.le_of_ble_eq_true rfl) rfl ?_
                    refine jj_goto (tgt := 10) dd_Ce_forgetBefore_89 (by decide) ?_
                    refine jj_sub [0, 2, 1, 4, 5] rfl ?_
                    rw [if_neg h21, if_pos h30, if_pos h34] at hQ
                    exact ih ([] ++ [b2]) _ (some b2) _ _ M (by rw [List.append_assoc]; exact hS) (by rw [List.append_assoc]; exact hc) (sg_app.mpr ⟨some b2, hsg, rfl, hbk, rfl⟩) hch (by rw [List.append_assoc]; exact hnd) (Or.inr ⟨b2, [], rfl, rfl⟩) (fun M2 h => hQ M2 (by rw [List.map_append, List.append_assoc] at h; exact h))
              · skip
                refine jj_iconst (v := 1) dd_Ce_forgetBefore_37 rfl ?_
                refine jj_goto (tgt := 42) dd_Ce_forgetBefore_38 (by decide) ?_
                refine jj_istore (lv' := [(5, .int (1)), (4, .ref b2), (3, .int (z)), (2, .null), (0, .ref (g (20 + i))), (1, .int (x))]) dd_Ce_forgetBefore_42 (Nat.le_of_ble_eq_true rfl) rfl ?_
                refine jj_aload 1 dd_Ce_forgetBefore_44 rfl ?_
                refine jj_geti dd_Ce_forgetBefore_46 ff_Ce_65 hbk (fun _ => rfl) ?_
                refine jj_iload_n 5 dd_Ce_forgetBefore_49 rfl ?_
                refine jj_icmp_ge (tgt := 64) dd_Ce_forgetBefore_50 (by decide) (fun h50 => ?_) (fun h50 => ?_)
                · exact absurd h50 h21
                · skip
                  refine jj_aload 1 dd_Ce_forgetBefore_53 rfl ?_
                  refine jj_geti dd_Ce_forgetBefore_55 ff_Ce_61 hbk (fun _ => rfl) ?_
                  refine jj_iconst (v := 3) dd_Ce_forgetBefore_58 rfl ?_
                  refine jj_icmp_eq (tgt := 64) dd_Ce_forgetBefore_59 (by decide) (fun h59 => ?_) (fun h59 => ?_)
                  · exact absurd (h30.symm.trans h59) (by decide)
                  · skip
                    refine jj_iconst (v := 1) dd_Ce_forgetBefore_62 rfl ?_
                    refine jj_istore_n (lv' := [(3, .int (1)), (5, .int (1)), (4, .ref b2), (2, .null), (0, .ref (g (20 + i))), (1, .int (x))]) dd_Ce_forgetBefore_63 (Nat.le_of_ble_eq_true rfl) rfl ?_
                    refine jj_iload 1 dd_Ce_forgetBefore_64 rfl ?_
                    refine jj_if_eq (tgt := 79) dd_Ce_forgetBefore_66 (by decide) (fun h => absurd h (by decide)) (fun _ => ?_)
                    refine jj_aload_n 4 dd_Ce_forgetBefore_69 rfl ?_
                    refine jj_aload_nN 3 dd_Ce_forgetBefore_70 rfl ?_
                    refine jj_aload 2 dd_Ce_forgetBefore_71 rfl ?_
                    refine jj_callV (ci := 3) [_, .ref b2] [] 0 0 dd_Ce_forgetBefore_73 cs_Ce_71 ci_Ce_71 (hS.1.1 _ _ (ok_c hi)) ⟨by decide, rfl⟩ rfl (Nat.le_of_ble_eq_true rfl) ⟨(Nat.le_of_ble_eq_true rfl), (Nat.le_of_ble_eq_true rfl)⟩ ⟨(Nat.le_of_ble_eq_true rfl), (Nat.le_of_ble_eq_true rfl)⟩ rfl (ct_Ce_removeBehind0 (hS.1.1 _ _ (ok_c hi)) hbk ?_)
                    obtain ⟨M1, hM1⟩ : ∃ M1, M1 = mm_sr (mm_si M (g (20 + i)) 3 (mm_i M (g (20 + i)) 3 - 1)) (g (20 + i)) 2 (mm_r M b2 4) := ⟨_, rfl⟩
                    rw [← hM1]
                    have hnd2 : ([] ++ rs).Nodup := (List.nodup_cons.mp hnd).2
                    have hS2 : rp_ g M1 (uf_ S.1 (20 + i) 3 (k - 1), S.2.1, up_ S.2.2 i (([] ++ rs).map (vv_of M1))) := by
                      have h2 := rp_sroot hSs hi hcs hchs (List.nodup_cons.mp hnd).2 (fun a ha => Or.inl (List.mem_cons_of_mem _ ha))
                      rw [hM1]
                      simp only [uf_uf, up_up, ek] at h2 ⊢
                      exact h2
                    have er : mm_r M1 (g (20 + i)) 2 = mm_r M b2 4 := by rw [hM1, mm_r_sr, if_pos ⟨rfl, rfl⟩]
                    have ea : ∀ a, a ∈ b2 :: rs → mm_r M1 a 4 = mm_r M a 4 := fun a ha => by rw [hM1, mm_r_sr, if_neg (fun z => absurd z.2 (by decide))]; rfl
                    have hch2 : ch_ M1 (mm_r M b2 4) rs := ch_sg.mpr (sg_frame (M := M) (fun a ha => ⟨by rw [hM1]; rfl, ea a (List.mem_cons_of_mem _ ha)⟩) (ch_sg.mp hch))
                    have hsg2 : sg_ M1 (mm_r M1 (g (20 + i)) 2) [] (mm_r M b2 4) := er
                    have hc2 : ch_ M1 (mm_r M1 (g (20 + i)) 2) ([] ++ rs) := by rw [er]; exact hch2
                    have hbk2 : mm_k M1 b2 = some (.inl 5) := by rw [hM1]; exact hbk
                    have evv : rs.map (vv_of M1) = rs.map (vv_of M) := List.map_congr_left (fun a ha => by
                      have hne : a ≠ g (20 + i) := rp_5ne hl (ch_kind hch a ha) (ok_c hi)
                      rw [vv_eq, vv_eq, hM1]
                      simp only [mm_i_sr, mm_i_si]
                      simp [hne])
                    rw [← evv] at hQ
                    refine jj_goto (tgt := 82) dd_Ce_forgetBefore_76 (by decide) ?_
                    refine jj_aload 2 dd_Ce_forgetBefore_82 rfl ?_
                    refine jj_getr dd_Ce_forgetBefore_84 ff_Ce_68 hbk2 (fun _ => rfl) (mm_r M b2 4) (ea b2 (List.mem_cons_self ..)) ?_
                    refine jj_astoreR (lv' := [(4, va_rf (mm_r M b2 4)), (3, .int (1)), (5, .int (1)), (2, .null), (0, .ref (g (20 + i))), (1, .int (x))]) dd_Ce_forgetBefore_87 (Nat.le_of_ble_eq_true rfl) rfl ?_
                    refine jj_goto (tgt := 10) dd_Ce_forgetBefore_89 (by decide) ?_
                    refine jj_sub [0, 1, 3, 4, 5] rfl ?_
                    rw [if_neg h21, if_pos h30, if_neg h34] at hQ
                    exact ih [] _ none _ _ M1 hS2 hc2 hsg2 hch2 hnd2 (Or.inl ⟨rfl, rfl⟩) hQ
        · skip
          have hpk : mm_k M p = some (.inl 5) := ch_kind hc p (by simp)
          have hpb : b2 ≠ p := by
            intro e
            subst e
            rw [List.append_assoc, List.nodup_append] at hnd
            have := hnd.2.1
            simp at this
          refine jj_aload 0 dd_Ce_forgetBefore_10 rfl ?_
          refine jj_ifnull dd_Ce_forgetBefore_12 ?_
          refine jj_aload 0 dd_Ce_forgetBefore_15 rfl ?_
          refine jj_geti dd_Ce_forgetBefore_17 ff_Ce_65 hbk (fun _ => rfl) ?_
          refine jj_iload_n 4 dd_Ce_forgetBefore_20 rfl ?_
          refine jj_icmp_ge (tgt := 41) dd_Ce_forgetBefore_21 (by decide) (fun h21 => ?_) (fun h21 => ?_)
          · skip
            refine jj_iconst (v := 0) dd_Ce_forgetBefore_41 rfl ?_
            refine jj_istore (lv' := [(5, .int (0)), (4, .ref b2), (3, .int (z)), (2, .ref p), (0, .ref (g (20 + i))), (1, .int (x))]) dd_Ce_forgetBefore_42 (Nat.le_of_ble_eq_true rfl) rfl ?_
            refine jj_aload 1 dd_Ce_forgetBefore_44 rfl ?_
            refine jj_geti dd_Ce_forgetBefore_46 ff_Ce_65 hbk (fun _ => rfl) ?_
            refine jj_iload_n 5 dd_Ce_forgetBefore_49 rfl ?_
            refine jj_icmp_ge (tgt := 64) dd_Ce_forgetBefore_50 (by decide) (fun h50 => ?_) (fun h50 => ?_)
            · skip
              refine jj_iload 0 dd_Ce_forgetBefore_64 rfl ?_
              refine jj_if_eq (tgt := 79) dd_Ce_forgetBefore_66 (by decide) (fun _ => ?_) (fun h => absurd h (by decide))
              refine jj_aload 1 dd_Ce_forgetBefore_79 rfl ?_
              refine jj_astore_n (lv' := [(2, .ref b2), (5, .int (0)), (4, .ref b2), (3, .int (z)), (0, .ref (g (20 + i))), (1, .int (x))]) dd_Ce_forgetBefore_81 (Nat.le_of_ble_eq_true rfl) rfl ?_
              refine jj_aload 2 dd_Ce_forgetBefore_82 rfl ?_
              refine jj_getr dd_Ce_forgetBefore_84 ff_Ce_68 hbk (fun _ => rfl) (mm_r M b2 4) rfl ?_
              refine jj_astoreR (lv' := [(4, va_rf (mm_r M b2 4)), (2, .ref b2), (5, .int (0)), (3, .int (z)), (0, .ref (g (20 + i))), (1, .int (x))]) dd_Ce_forgetBefore_87 (Nat.le_of_ble_eq_true rfl) rfl ?_
              refine jj_goto (tgt := 10) dd_Ce_forgetBefore_89 (by decide) ?_
              refine jj_sub [0, 3, 1, 4, 5] rfl ?_
              rw [if_pos h21] at hQ
              exact ih ((qs ++ [p]) ++ [b2]) _ (some b2) _ _ M (by rw [List.append_assoc]; exact hS) (by rw [List.append_assoc]; exact hc) (sg_app.mpr ⟨some b2, hsg, rfl, hbk, rfl⟩) hch (by rw [List.append_assoc]; exact hnd) (Or.inr ⟨b2, (qs ++ [p]), rfl, rfl⟩) (fun M2 h => hQ M2 (by rw [List.map_append, List.append_assoc] at h; exact h))
            · exact absurd h21 h50
          · skip
            refine jj_aload 0 dd_Ce_forgetBefore_24 rfl ?_
            refine jj_geti dd_Ce_forgetBefore_26 ff_Ce_61 hbk (fun _ => rfl) ?_
            refine jj_iconst (v := 1) dd_Ce_forgetBefore_29 rfl ?_
            refine jj_icmp_ne (tgt := 37) dd_Ce_forgetBefore_30 (by decide) (fun h30 => ?_) (fun h30 => ?_)
            · skip
              refine jj_iconst (v := 1) dd_Ce_forgetBefore_37 rfl ?_
              refine jj_goto (tgt := 42) dd_Ce_forgetBefore_38 (by decide) ?_
              refine jj_istore (lv' := [(5, .int (1)), (4, .ref b2), (3, .int (z)), (2, .ref p), (0, .ref (g (20 + i))), (1, .int (x))]) dd_Ce_forgetBefore_42 (Nat.le_of_ble_eq_true rfl) rfl ?_
              refine jj_aload 1 dd_Ce_forgetBefore_44 rfl ?_
              refine jj_geti dd_Ce_forgetBefore_46 ff_Ce_65 hbk (fun _ => rfl) ?_
              refine jj_iload_n 5 dd_Ce_forgetBefore_49 rfl ?_
              refine jj_icmp_ge (tgt := 64) dd_Ce_forgetBefore_50 (by decide) (fun h50 => ?_) (fun h50 => ?_)
              · exact absurd h50 h21
              · skip
                refine jj_aload 1 dd_Ce_forgetBefore_53 rfl ?_
                refine jj_geti dd_Ce_forgetBefore_55 ff_Ce_61 hbk (fun _ => rfl) ?_
                refine jj_iconst (v := 3) dd_Ce_forgetBefore_58 rfl ?_
                refine jj_icmp_eq (tgt := 64) dd_Ce_forgetBefore_59 (by decide) (fun h59 => ?_) (fun h59 => ?_)
                · skip
                  refine jj_iload 0 dd_Ce_forgetBefore_64 rfl ?_
                  refine jj_if_eq (tgt := 79) dd_Ce_forgetBefore_66 (by decide) (fun h => absurd h (by decide)) (fun _ => ?_)
                  refine jj_aload_n 4 dd_Ce_forgetBefore_69 rfl ?_
                  refine jj_aload_n 3 dd_Ce_forgetBefore_70 rfl ?_
                  refine jj_aload 1 dd_Ce_forgetBefore_71 rfl ?_
                  refine jj_callV (ci := 3) [.ref p, .ref b2] [] 0 0 dd_Ce_forgetBefore_73 cs_Ce_71 ci_Ce_71 (hS.1.1 _ _ (ok_c hi)) ⟨by decide, rfl⟩ rfl (Nat.le_of_ble_eq_true rfl) ⟨(Nat.le_of_ble_eq_true rfl), (Nat.le_of_ble_eq_true rfl)⟩ ⟨(Nat.le_of_ble_eq_true rfl), (Nat.le_of_ble_eq_true rfl)⟩ rfl (ct_Ce_removeBehind (hS.1.1 _ _ (ok_c hi)) hbk hpk ?_)
                  obtain ⟨M1, hM1⟩ : ∃ M1, M1 = mm_sr (mm_si M (g (20 + i)) 3 (mm_i M (g (20 + i)) 3 - 1)) p 4 (mm_r M b2 4) := ⟨_, rfl⟩
                  rw [← hM1]
                  have hnd0 : (qs ++ p :: b2 :: rs).Nodup := by rw [List.append_assoc] at hnd; exact hnd
                  have hnd2 : (qs ++ [p] ++ rs).Nodup := by
                    rw [List.append_assoc]
                    refine List.Nodup.sublist ?_ hnd0
                    exact List.Sublist.append_left (List.Sublist.cons_cons _ (List.sublist_cons_self _ _)) _
                  have hS2 : rp_ g M1 (uf_ S.1 (20 + i) 3 (k - 1), S.2.1, up_ S.2.2 i ((qs ++ [p] ++ rs).map (vv_of M1))) := by
                    have h2 := rp_slink (ps := qs) (p := p) (qs := b2 :: rs) (rs := rs) hSs hi (by rw [List.append_assoc] at hcs; exact hcs) hchs (by rw [List.append_assoc] at hnd2; exact hnd2) (fun a ha => Or.inl (List.mem_cons_of_mem _ ha))
                    rw [hM1]
                    simp only [uf_uf, up_up, ek] at h2 ⊢
                    rw [List.append_assoc]
                    exact h2
                  have hnr : p ∉ qs ∧ p ∉ b2 :: rs := by
                    rw [List.nodup_append] at hnd0
                    exact ⟨fun h => hnd0.2.2 p h p (by simp) rfl, (List.nodup_cons.mp hnd0.2.1).1⟩
                  have hrt : g (20 + i) ≠ p := fun e => rp_5ne hl hpk (ok_c hi) e.symm
                  have er : mm_r M1 (g (20 + i)) 2 = mm_r M (g (20 + i)) 2 := by rw [hM1, mm_r_sr, if_neg (fun z => hrt z.1)]; rfl
                  have eo : ∀ a, a ≠ p → mm_r M1 a 4 = mm_r M a 4 := fun a ha => by rw [hM1, mm_r_sr, if_neg (fun z => ha z.1)]; rfl
                  have ea : ∀ a, a ∈ b2 :: rs → mm_r M1 a 4 = mm_r M a 4 := fun a ha => eo a (fun e => hnr.2 (e ▸ ha))
                  have hch2 : ch_ M1 (mm_r M b2 4) rs := ch_sg.mpr (sg_frame (M := M) (fun a ha => ⟨by rw [hM1]; rfl, ea a (List.mem_cons_of_mem _ ha)⟩) (ch_sg.mp hch))
                  have hsg2 : sg_ M1 (mm_r M1 (g (20 + i)) 2) (qs ++ [p]) (mm_r M b2 4) := by
                    rw [er]
                    obtain ⟨m, s1, s2⟩ := sg_app.mp hsg
                    refine sg_app.mpr ⟨m, sg_frame (M := M) (fun a ha => ⟨by rw [hM1]; rfl, eo a (fun e => hnr.1 (e ▸ ha))⟩) s1, ?_⟩
                    cases m with
                    | none => exact s2.elim
                    | some b =>
                      obtain ⟨rfl, s3, _⟩ := s2
                      exact ⟨rfl, by rw [hM1]; exact s3, by rw [hM1, mm_r_sr, if_pos ⟨rfl, rfl⟩]; rfl⟩
                  have hc2 : ch_ M1 (mm_r M1 (g (20 + i)) 2) (qs ++ [p] ++ rs) := ch_sg.mpr (sg_app.mpr ⟨_, hsg2, ch_sg.mp hch2⟩)
                  have hbk2 : mm_k M1 b2 = some (.inl 5) := by rw [hM1]; exact hbk
                  have evv : rs.map (vv_of M1) = rs.map (vv_of M) := List.map_congr_left (fun a ha => by
                    have hne : a ≠ g (20 + i) := rp_5ne hl (ch_kind hch a ha) (ok_c hi)
                    rw [vv_eq, vv_eq, hM1]
                    simp only [mm_i_sr, mm_i_si]
                    simp [hne])
                  have evp : (qs ++ [p]).map (vv_of M1) = (qs ++ [p]).map (vv_of M) := List.map_congr_left (fun a ha => by
                    have hne : a ≠ g (20 + i) := rp_5ne hl (ch_kind hc a (List.mem_append_left _ ha)) (ok_c hi)
                    rw [vv_eq, vv_eq, hM1]
                    simp only [mm_i_sr, mm_i_si]
                    simp [hne])
                  rw [← evv] at hQ
                  rw [← evp] at hQ
                  refine jj_goto (tgt := 82) dd_Ce_forgetBefore_76 (by decide) ?_
                  refine jj_aload 1 dd_Ce_forgetBefore_82 rfl ?_
                  refine jj_getr dd_Ce_forgetBefore_84 ff_Ce_68 hbk2 (fun _ => rfl) (mm_r M b2 4) (ea b2 (List.mem_cons_self ..)) ?_
                  refine jj_astoreR (lv' := [(4, va_rf (mm_r M b2 4)), (5, .int (1)), (3, .int (z)), (2, .ref p), (0, .ref (g (20 + i))), (1, .int (x))]) dd_Ce_forgetBefore_87 (Nat.le_of_ble_eq_true rfl) rfl ?_
                  refine jj_goto (tgt := 10) dd_Ce_forgetBefore_89 (by decide) ?_
                  refine jj_sub [0, 2, 3, 4, 5] rfl ?_
                  rw [if_neg h21, if_neg h30, if_pos h59] at hQ
                  exact ih (qs ++ [p]) _ (some p) _ _ M1 hS2 hc2 hsg2 hch2 hnd2 (Or.inr ⟨p, qs, rfl, rfl⟩) hQ
                · skip
                  refine jj_iconst (v := 1) dd_Ce_forgetBefore_62 rfl ?_
                  refine jj_istore_n (lv' := [(3, .int (1)), (5, .int (1)), (4, .ref b2), (2, .ref p), (0, .ref (g (20 + i))), (1, .int (x))]) dd_Ce_forgetBefore_63 (Nat.le_of_ble_eq_true rfl) rfl ?_
                  refine jj_iload 1 dd_Ce_forgetBefore_64 rfl ?_
                  refine jj_if_eq (tgt := 79) dd_Ce_forgetBefore_66 (by decide) (fun h => absurd h (by decide)) (fun _ => ?_)
                  refine jj_aload_n 4 dd_Ce_forgetBefore_69 rfl ?_
                  refine jj_aload_n 3 dd_Ce_forgetBefore_70 rfl ?_
                  refine jj_aload 2 dd_Ce_forgetBefore_71 rfl ?_
                  refine jj_callV (ci := 3) [.ref p, .ref b2] [] 0 0 dd_Ce_forgetBefore_73 cs_Ce_71 ci_Ce_71 (hS.1.1 _ _ (ok_c hi)) ⟨by decide, rfl⟩ rfl (Nat.le_of_ble_eq_true rfl) ⟨(Nat.le_of_ble_eq_true rfl), (Nat.le_of_ble_eq_true rfl)⟩ ⟨(Nat.le_of_ble_eq_true rfl), (Nat.le_of_ble_eq_true rfl)⟩ rfl (ct_Ce_removeBehind (hS.1.1 _ _ (ok_c hi)) hbk hpk ?_)
                  obtain ⟨M1, hM1⟩ : ∃ M1, M1 = mm_sr (mm_si M (g (20 + i)) 3 (mm_i M (g (20 + i)) 3 - 1)) p 4 (mm_r M b2 4) := ⟨_, rfl⟩
                  rw [← hM1]
                  have hnd0 : (qs ++ p :: b2 :: rs).Nodup := by rw [List.append_assoc] at hnd; exact hnd
                  have hnd2 : (qs ++ [p] ++ rs).Nodup := by
                    rw [List.append_assoc]
                    refine List.Nodup.sublist ?_ hnd0
                    exact List.Sublist.append_left (List.Sublist.cons_cons _ (List.sublist_cons_self _ _)) _
                  have hS2 : rp_ g M1 (uf_ S.1 (20 + i) 3 (k - 1), S.2.1, up_ S.2.2 i ((qs ++ [p] ++ rs).map (vv_of M1))) := by
                    have h2 := rp_slink (ps := qs) (p := p) (qs := b2 :: rs) (rs := rs) hSs hi (by rw [List.append_assoc] at hcs; exact hcs) hchs (by rw [List.append_assoc] at hnd2; exact hnd2) (fun a ha => Or.inl (List.mem_cons_of_mem _ ha))
                    rw [hM1]
                    simp only [uf_uf, up_up, ek] at h2 ⊢
                    rw [List.append_assoc]
                    exact h2
                  have hnr : p ∉ qs ∧ p ∉ b2 :: rs := by
                    rw [List.nodup_append] at hnd0
                    exact ⟨fun h => hnd0.2.2 p h p (by simp) rfl, (List.nodup_cons.mp hnd0.2.1).1⟩
                  have hrt : g (20 + i) ≠ p := fun e => rp_5ne hl hpk (ok_c hi) e.symm
                  have er : mm_r M1 (g (20 + i)) 2 = mm_r M (g (20 + i)) 2 := by rw [hM1, mm_r_sr, if_neg (fun z => hrt z.1)]; rfl
                  have eo : ∀ a, a ≠ p → mm_r M1 a 4 = mm_r M a 4 := fun a ha => by rw [hM1, mm_r_sr, if_neg (fun z => ha z.1)]; rfl
                  have ea : ∀ a, a ∈ b2 :: rs → mm_r M1 a 4 = mm_r M a 4 := fun a ha => eo a (fun e => hnr.2 (e ▸ ha))
                  have hch2 : ch_ M1 (mm_r M b2 4) rs := ch_sg.mpr (sg_frame (M := M) (fun a ha => ⟨by rw [hM1]; rfl, ea a (List.mem_cons_of_mem _ ha)⟩) (ch_sg.mp hch))
                  have hsg2 : sg_ M1 (mm_r M1 (g (20 + i)) 2) (qs ++ [p]) (mm_r M b2 4) := by
                    rw [er]
                    obtain ⟨m, s1, s2⟩ := sg_app.mp hsg
                    refine sg_app.mpr ⟨m, sg_frame (M := M) (fun a ha => ⟨by rw [hM1]; rfl, eo a (fun e => hnr.1 (e ▸ ha))⟩) s1, ?_⟩
                    cases m with
                    | none => exact s2.elim
                    | some b =>
                      obtain ⟨rfl, s3, _⟩ := s2
                      exact ⟨rfl, by rw [hM1]; exact s3, by rw [hM1, mm_r_sr, if_pos ⟨rfl, rfl⟩]; rfl⟩
                  have hc2 : ch_ M1 (mm_r M1 (g (20 + i)) 2) (qs ++ [p] ++ rs) := ch_sg.mpr (sg_app.mpr ⟨_, hsg2, ch_sg.mp hch2⟩)
                  have hbk2 : mm_k M1 b2 = some (.inl 5) := by rw [hM1]; exact hbk
                  have evv : rs.map (vv_of M1) = rs.map (vv_of M) := List.map_congr_left (fun a ha => by
                    have hne : a ≠ g (20 + i) := rp_5ne hl (ch_kind hch a ha) (ok_c hi)
                    rw [vv_eq, vv_eq, hM1]
                    simp only [mm_i_sr, mm_i_si]
                    simp [hne])
                  have evp : (qs ++ [p]).map (vv_of M1) = (qs ++ [p]).map (vv_of M) := List.map_congr_left (fun a ha => by
                    have hne : a ≠ g (20 + i) := rp_5ne hl (ch_kind hc a (List.mem_append_left _ ha)) (ok_c hi)
                    rw [vv_eq, vv_eq, hM1]
                    simp only [mm_i_sr, mm_i_si]
                    simp [hne])
                  rw [← evv] at hQ
                  rw [← evp] at hQ
                  refine jj_goto (tgt := 82) dd_Ce_forgetBefore_76 (by decide) ?_
                  refine jj_aload 2 dd_Ce_forgetBefore_82 rfl ?_
                  refine jj_getr dd_Ce_forgetBefore_84 ff_Ce_68 hbk2 (fun _ => rfl) (mm_r M b2 4) (ea b2 (List.mem_cons_self ..)) ?_
                  refine jj_astoreR (lv' := [(4, va_rf (mm_r M b2 4)), (3, .int (1)), (5, .int (1)), (2, .ref p), (0, .ref (g (20 + i))), (1, .int (x))]) dd_Ce_forgetBefore_87 (Nat.le_of_ble_eq_true rfl) rfl ?_
                  refine jj_goto (tgt := 10) dd_Ce_forgetBefore_89 (by decide) ?_
                  refine jj_sub [0, 1, 3, 4, 5] rfl ?_
                  rw [if_neg h21, if_neg h30, if_neg h59] at hQ
                  exact ih (qs ++ [p]) _ (some p) _ _ M1 hS2 hc2 hsg2 hch2 hnd2 (Or.inr ⟨p, qs, rfl, rfl⟩) hQ
            · skip
              refine jj_iload_n 1 dd_Ce_forgetBefore_33 rfl ?_
              refine jj_if_eq (tgt := 41) dd_Ce_forgetBefore_34 (by decide) (fun h34 => ?_) (fun h34 => ?_)
              · skip
                refine jj_iconst (v := 0) dd_Ce_forgetBefore_41 rfl ?_
                refine jj_istore (lv' := [(5, .int (0)), (4, .ref b2), (3, .int (z)), (2, .ref p), (0, .ref (g (20 + i))), (1, .int (x))]) dd_Ce_forgetBefore_42 (Nat.le_of_ble_eq_true rfl) rfl ?_
                refine jj_aload 1 dd_Ce_forgetBefore_44 rfl ?_
                refine jj_geti dd_Ce_forgetBefore_46 ff_Ce_65 hbk (fun _ => rfl) ?_
                refine jj_iload_n 5 dd_Ce_forgetBefore_49 rfl ?_
                refine jj_icmp_ge (tgt := 64) dd_Ce_forgetBefore_50 (by decide) (fun h50 => ?_) (fun h50 => ?_)
                · exact absurd h50 h21
                · skip
                  refine jj_aload 1 dd_Ce_forgetBefore_53 rfl ?_
                  refine jj_geti dd_Ce_forgetBefore_55 ff_Ce_61 hbk (fun _ => rfl) ?_
                  refine jj_iconst (v := 3) dd_Ce_forgetBefore_58 rfl ?_
                  refine jj_icmp_eq (tgt := 64) dd_Ce_forgetBefore_59 (by decide) (fun h59 => ?_) (fun h59 => ?_)
                  · exact absurd (h30.symm.trans h59) (by decide)
                  · skip
                    refine jj_iconst (v := 1) dd_Ce_forgetBefore_62 rfl ?_
                    refine jj_istore_n (lv' := [(3, .int (1)), (5, .int (0)), (4, .ref b2), (2, .ref p), (0, .ref (g (20 + i))), (1, .int (x))]) dd_Ce_forgetBefore_63 (Nat.le_of_ble_eq_true rfl) rfl ?_
                    refine jj_iload 1 dd_Ce_forgetBefore_64 rfl ?_
                    refine jj_if_eq (tgt := 79) dd_Ce_forgetBefore_66 (by decide) (fun _ => ?_) (fun h => absurd h (by decide))
                    refine jj_aload 2 dd_Ce_forgetBefore_79 rfl ?_
                    refine jj_astore_n (lv' := [(2, .ref b2), (3, .int (1)), (5, .int (0)), (4, .ref b2), (0, .ref (g (20 + i))), (1, .int (x))]) dd_Ce_forgetBefore_81 (Nat.le_of_ble_eq_true rfl) rfl ?_
                    refine jj_aload 3 dd_Ce_forgetBefore_82 rfl ?_
                    refine jj_getr dd_Ce_forgetBefore_84 ff_Ce_68 hbk (fun _ => rfl) (mm_r M b2 4) rfl ?_
                    refine jj_astoreR (lv' := [(4, va_rf (mm_r M b2 4)), (2, .ref b2), (3, .int (1)), (5, .int (0)), (0, .ref (g (20 + i))), (1, .int (x))]) dd_Ce_forgetBefore_87 (Nat.le_of_ble_eq_true rfl) rfl ?_
                    refine jj_goto (tgt := 10) dd_Ce_forgetBefore_89 (by decide) ?_
                    refine jj_sub [0, 2, 1, 4, 5] rfl ?_
                    rw [if_neg h21, if_pos h30, if_pos h34] at hQ
                    exact ih ((qs ++ [p]) ++ [b2]) _ (some b2) _ _ M (by rw [List.append_assoc]; exact hS) (by rw [List.append_assoc]; exact hc) (sg_app.mpr ⟨some b2, hsg, rfl, hbk, rfl⟩) hch (by rw [List.append_assoc]; exact hnd) (Or.inr ⟨b2, (qs ++ [p]), rfl, rfl⟩) (fun M2 h => hQ M2 (by rw [List.map_append, List.append_assoc] at h; exact h))
              · skip
                refine jj_iconst (v := 1) dd_Ce_forgetBefore_37 rfl ?_
                refine jj_goto (tgt := 42) dd_Ce_forgetBefore_38 (by decide) ?_
                refine jj_istore (lv' := [(5, .int (1)), (4, .ref b2), (3, .int (z)), (2, .ref p), (0, .ref (g (20 + i))), (1, .int (x))]) dd_Ce_forgetBefore_42 (Nat.le_of_ble_eq_true rfl) rfl ?_
                refine jj_aload 1 dd_Ce_forgetBefore_44 rfl ?_
                refine jj_geti dd_Ce_forgetBefore_46 ff_Ce_65 hbk (fun _ => rfl) ?_
                refine jj_iload_n 5 dd_Ce_forgetBefore_49 rfl ?_
                refine jj_icmp_ge (tgt := 64) dd_Ce_forgetBefore_50 (by decide) (fun h50 => ?_) (fun h50 => ?_)
                · exact absurd h50 h21
                · skip
                  refine jj_aload 1 dd_Ce_forgetBefore_53 rfl ?_
                  refine jj_geti dd_Ce_forgetBefore_55 ff_Ce_61 hbk (fun _ => rfl) ?_
                  refine jj_iconst (v := 3) dd_Ce_forgetBefore_58 rfl ?_
                  refine jj_icmp_eq (tgt := 64) dd_Ce_forgetBefore_59 (by decide) (fun h59 => ?_) (fun h59 => ?_)
                  · exact absurd (h30.symm.trans h59) (by decide)
                  · skip
                    refine jj_iconst (v := 1) dd_Ce_forgetBefore_62 rfl ?_
                    refine jj_istore_n (lv' := [(3, .int (1)), (5, .int (1)), (4, .ref b2), (2, .ref p), (0, .ref (g (20 + i))), (1, .int (x))]) dd_Ce_forgetBefore_63 (Nat.le_of_ble_eq_true rfl) rfl ?_
                    refine jj_iload 1 dd_Ce_forgetBefore_64 rfl ?_
                    refine jj_if_eq (tgt := 79) dd_Ce_forgetBefore_66 (by decide) (fun h => absurd h (by decide)) (fun _ => ?_)
                    refine jj_aload_n 4 dd_Ce_forgetBefore_69 rfl ?_
                    refine jj_aload_n 3 dd_Ce_forgetBefore_70 rfl ?_
                    refine jj_aload 2 dd_Ce_forgetBefore_71 rfl ?_
                    refine jj_callV (ci := 3) [.ref p, .ref b2] [] 0 0 dd_Ce_forgetBefore_73 cs_Ce_71 ci_Ce_71 (hS.1.1 _ _ (ok_c hi)) ⟨by decide, rfl⟩ rfl (Nat.le_of_ble_eq_true rfl) ⟨(Nat.le_of_ble_eq_true rfl), (Nat.le_of_ble_eq_true rfl)⟩ ⟨(Nat.le_of_ble_eq_true rfl), (Nat.le_of_ble_eq_true rfl)⟩ rfl (ct_Ce_removeBehind (hS.1.1 _ _ (ok_c hi)) hbk hpk ?_)
                    obtain ⟨M1, hM1⟩ : ∃ M1, M1 = mm_sr (mm_si M (g (20 + i)) 3 (mm_i M (g (20 + i)) 3 - 1)) p 4 (mm_r M b2 4) := ⟨_, rfl⟩
                    rw [← hM1]
                    have hnd0 : (qs ++ p :: b2 :: rs).Nodup := by rw [List.append_assoc] at hnd; exact hnd
                    have hnd2 : (qs ++ [p] ++ rs).Nodup := by
                      rw [List.append_assoc]
                      refine List.Nodup.sublist ?_ hnd0
                      exact List.Sublist.append_left (List.Sublist.cons_cons _ (List.sublist_cons_self _ _)) _
                    have hS2 : rp_ g M1 (uf_ S.1 (20 + i) 3 (k - 1), S.2.1, up_ S.2.2 i ((qs ++ [p] ++ rs).map (vv_of M1))) := by
                      have h2 := rp_slink (ps := qs) (p := p) (qs := b2 :: rs) (rs := rs) hSs hi (by rw [List.append_assoc] at hcs; exact hcs) hchs (by rw [List.append_assoc] at hnd2; exact hnd2) (fun a ha => Or.inl (List.mem_cons_of_mem _ ha))
                      rw [hM1]
                      simp only [uf_uf, up_up, ek] at h2 ⊢
                      rw [List.append_assoc]
                      exact h2
                    have hnr : p ∉ qs ∧ p ∉ b2 :: rs := by
                      rw [List.nodup_append] at hnd0
                      exact ⟨fun h => hnd0.2.2 p h p (by simp) rfl, (List.nodup_cons.mp hnd0.2.1).1⟩
                    have hrt : g (20 + i) ≠ p := fun e => rp_5ne hl hpk (ok_c hi) e.symm
                    have er : mm_r M1 (g (20 + i)) 2 = mm_r M (g (20 + i)) 2 := by rw [hM1, mm_r_sr, if_neg (fun z => hrt z.1)]; rfl
                    have eo : ∀ a, a ≠ p → mm_r M1 a 4 = mm_r M a 4 := fun a ha => by rw [hM1, mm_r_sr, if_neg (fun z => ha z.1)]; rfl
                    have ea : ∀ a, a ∈ b2 :: rs → mm_r M1 a 4 = mm_r M a 4 := fun a ha => eo a (fun e => hnr.2 (e ▸ ha))
                    have hch2 : ch_ M1 (mm_r M b2 4) rs := ch_sg.mpr (sg_frame (M := M) (fun a ha => ⟨by rw [hM1]; rfl, ea a (List.mem_cons_of_mem _ ha)⟩) (ch_sg.mp hch))
                    have hsg2 : sg_ M1 (mm_r M1 (g (20 + i)) 2) (qs ++ [p]) (mm_r M b2 4) := by
                      rw [er]
                      obtain ⟨m, s1, s2⟩ := sg_app.mp hsg
                      refine sg_app.mpr ⟨m, sg_frame (M := M) (fun a ha => ⟨by rw [hM1]; rfl, eo a (fun e => hnr.1 (e ▸ ha))⟩) s1, ?_⟩
                      cases m with
                      | none => exact s2.elim
                      | some b =>
                        obtain ⟨rfl, s3, _⟩ := s2
                        exact ⟨rfl, by rw [hM1]; exact s3, by rw [hM1, mm_r_sr, if_pos ⟨rfl, rfl⟩]; rfl⟩
                    have hc2 : ch_ M1 (mm_r M1 (g (20 + i)) 2) (qs ++ [p] ++ rs) := ch_sg.mpr (sg_app.mpr ⟨_, hsg2, ch_sg.mp hch2⟩)
                    have hbk2 : mm_k M1 b2 = some (.inl 5) := by rw [hM1]; exact hbk
                    have evv : rs.map (vv_of M1) = rs.map (vv_of M) := List.map_congr_left (fun a ha => by
                      have hne : a ≠ g (20 + i) := rp_5ne hl (ch_kind hch a ha) (ok_c hi)
                      rw [vv_eq, vv_eq, hM1]
                      simp only [mm_i_sr, mm_i_si]
                      simp [hne])
                    have evp : (qs ++ [p]).map (vv_of M1) = (qs ++ [p]).map (vv_of M) := List.map_congr_left (fun a ha => by
                      have hne : a ≠ g (20 + i) := rp_5ne hl (ch_kind hc a (List.mem_append_left _ ha)) (ok_c hi)
                      rw [vv_eq, vv_eq, hM1]
                      simp only [mm_i_sr, mm_i_si]
                      simp [hne])
                    rw [← evv] at hQ
                    rw [← evp] at hQ
                    refine jj_goto (tgt := 82) dd_Ce_forgetBefore_76 (by decide) ?_
                    refine jj_aload 2 dd_Ce_forgetBefore_82 rfl ?_
                    refine jj_getr dd_Ce_forgetBefore_84 ff_Ce_68 hbk2 (fun _ => rfl) (mm_r M b2 4) (ea b2 (List.mem_cons_self ..)) ?_
                    refine jj_astoreR (lv' := [(4, va_rf (mm_r M b2 4)), (3, .int (1)), (5, .int (1)), (2, .ref p), (0, .ref (g (20 + i))), (1, .int (x))]) dd_Ce_forgetBefore_87 (Nat.le_of_ble_eq_true rfl) rfl ?_
                    refine jj_goto (tgt := 10) dd_Ce_forgetBefore_89 (by decide) ?_
                    refine jj_sub [0, 1, 3, 4, 5] rfl ?_
                    rw [if_neg h21, if_pos h30, if_neg h34] at hQ
                    exact ih (qs ++ [p]) _ (some p) _ _ M1 hS2 hc2 hsg2 hch2 hnd2 (Or.inr ⟨p, qs, rfl, rfl⟩) hQ
  obtain ⟨as, hc, hV, hnd⟩ := rp_as hS hi
  refine jj_null dd_Ce_forgetBefore_0 ?_
  refine jj_astore_nN (lv' := [(2, .null), (0, .ref (g (20 + i))), (1, .int (x))]) dd_Ce_forgetBefore_1 (Nat.le_of_ble_eq_true rfl) rfl ?_
  refine jj_iconst (v := 0) dd_Ce_forgetBefore_2 rfl ?_
  refine jj_istore_n (lv' := [(3, .int (0)), (2, .null), (0, .ref (g (20 + i))), (1, .int (x))]) dd_Ce_forgetBefore_3 (Nat.le_of_ble_eq_true rfl) rfl ?_
  refine jj_aload_n 2 dd_Ce_forgetBefore_4 rfl ?_
  refine jj_getr dd_Ce_forgetBefore_5 ff_Ce_15 (hS.1.1 _ _ (ok_c hi)) (fun _ => rfl) (mm_r M (g (20 + i)) 2) rfl ?_
  refine jj_astoreR (lv' := [(4, va_rf (mm_r M (g (20 + i)) 2)), (3, .int (0)), (2, .null), (0, .ref (g (20 + i))), (1, .int (x))]) dd_Ce_forgetBefore_8 (Nat.le_of_ble_eq_true rfl) rfl ?_
  exact loop as [] _ none 0 (S.1 (20 + i) 3) M (by rw [uf_same rfl, List.nil_append, up_same hV.symm]; exact hS) hc rfl hc hnd (Or.inl ⟨rfl, rfl⟩) (by rw [hV]; exact hQ)
