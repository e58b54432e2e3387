def m0_ (F : Nat → Nat → Int32) (w : Int32) : Int32 := if w < 1 then 0 else if F 60 3 < w then 0 else 1
def m1_go (F : Nat → Nat → Int32) (w : Int32) : Nat → Nat → Int32 → Int32
  | 0, _, z => z
  | n + 1, k, z => m1_go F w n (k + 1) (if z = 0 then 0 else if F 77 k = 0 then (if w ≤ F 78 k then 0 else 1) else 0)
def m2_go (F : Nat → Nat → Int32) (w : Int32) : Nat → Nat → Int32 → Int32
  | 0, _, z => z
  | n + 1, k, z => m2_go F w n (k + 1) (if z = 0 then 0 else if F 65 k = 0 then 1 else if F 65 k < w then 0 else 1)
def m3_go (F : Nat → Nat → Int32) (w : Int32) : Nat → Nat → Int32 → Int32
  | 0, _, z => z
  | n + 1, k, z => m3_go F w n (k + 1) (if z = 0 then 0 else if F 83 k = 2 then (if F 84 k < w then 0 else 1) else 1)
def sw_go (w : Int32) : Nat → Nat → Int32 → Int32 → (Nat → Nat → Int32) → (Int32 → (Nat → Nat → Int32) → Prop) → Prop
  | 0, _, a, _, F, K => K a F
  | n + 1, k, a, b, F, K => if b = 0 then K a F else if en_g F k = 0 then sw_go w n (k + 1) a (if en_F F k 77 k = 0 then 1 else 0) (en_F F k) K else sw_go w n (k + 1) (a + 1) (if st_F (en_F F k) k w 77 k = 0 then 1 else 0) (st_F (en_F F k) k w) K
def sw_m (F : Nat → Nat → Int32) (w : Int32) : Int32 := m3_go F w 4 0 (m2_go F w 12 0 (m1_go F w 3 0 (m0_ F w)))
def sw_ (F : Nat → Nat → Int32) (w z : Int32) (K : Int32 → (Nat → Nat → Int32) → Prop) : Prop := if z = 0 then K (-1) F else sw_go w 3 0 0 1 F K
theorem st_oth (F : Nat → Nat → Int32) (t : Nat) (w : Int32) (a j : Nat) (h1 : a ≠ 75) (h2 : a ≠ 78) : st_F F t w a j = F a j := by
  unfold st_F
  rw [so_oth _ _ _ _ _ _ _ h1, uf_at, if_neg (fun h => h2 h.1)]
theorem en_rec (F : Nat → Nat → Int32) (t : Nat) : rec_ (en_F F t) = rec_ F := by
  unfold rec_
  rw [en_oth _ _ _ _ (by omega)]
theorem st_rec (F : Nat → Nat → Int32) (t : Nat) (w : Int32) : rec_ (st_F F t w) = rec_ F := by
  unfold rec_
  rw [st_oth _ _ _ _ _ (by omega) (by omega)]
set_option maxRecDepth 20000 in
theorem sw_loop4 {l : Launch} {g : Nat → Nat} {S : ss_} {Q : Option Value → ss_ → Prop} {w : Int32} {G : mm_G} {A : Nat → Prop}  : ∀ (n k : Nat) (a b z : Int32) (F : Nat → Nat → Int32) (M : mm_M), k + n = 3 → rec_ F ≤ 1540 → F 60 11 = nI (rec_ F) → rp_ g M (F, S.2) → sw_go w n k a b F (fun r F => Q (some (.int r)) (F, S.2)) → jj_ l yy_Mo_sweep bb_Mo_sweep 7 (some .int) G (mm_R 2 0 0) A (mm_ret (qs_ g Q)) 0 0 166 [(5, .int (nI (k))), (4, .int (b)), (3, .int (a)), (2, .int (z)), (0, .ref (g 60)), (1, .int (w))] [] M := by
  intro n
  induction n with
  | zero =>
    intro k a b z F M hk hr2 hr hS hQ
    have hk : k = 3 := by omega
    subst hk
    refine jj_iload 0 dd_Mo_sweep_166 rfl ?_
    refine jj_iconst (v := 3) dd_Mo_sweep_168 rfl ?_
    refine jj_icmp_ge (tgt := 223) dd_Mo_sweep_169 (by decide) (fun h169 => ?_) (fun h169 => ?_)
    · skip
      refine jj_iload_n 2 dd_Mo_sweep_223 rfl ?_
      refine jj_iret dd_Mo_sweep_224 rfl rfl ?_
      exact ⟨_, hS, hQ⟩
    · exact absurd (mm_rfl _) h169
  | succ n ih =>
    intro k a b z F M hk hr2 hr hS hQ
    refine jj_iload 0 dd_Mo_sweep_166 rfl ?_
    refine jj_iconst (v := 3) dd_Mo_sweep_168 rfl ?_
    refine jj_icmp_ge (tgt := 223) dd_Mo_sweep_169 (by decide) (fun h169 => ?_) (fun h169 => ?_)
    · exact absurd h169 (nI_ge (b := 3) (by omega) (by decide))
    · skip
      refine jj_iload 1 dd_Mo_sweep_172 rfl ?_
      refine jj_if_eq (tgt := 223) dd_Mo_sweep_174 (by decide) (fun h174 => ?_) (fun h174 => ?_)
      · skip
        refine jj_iload_n 2 dd_Mo_sweep_223 rfl ?_
        refine jj_iret dd_Mo_sweep_224 rfl rfl ?_
        unfold sw_go at hQ
        rw [if_pos h174] at hQ
        exact ⟨_, hS, hQ⟩
      · skip
        refine jj_aload_n 4 dd_Mo_sweep_177 rfl ?_
        refine jj_iload 0 dd_Mo_sweep_178 rfl ?_
        refine jj_callV (ci := 7) [_] [] 0 0 dd_Mo_sweep_180 cs_Mo_102 ci_Mo_102 (hS.1.1 60 _ rfl) ⟨by decide, rfl⟩ rfl (Nat.le_of_ble_eq_true rfl) ⟨(Nat.le_of_ble_eq_true rfl), (Nat.le_of_ble_eq_true rfl)⟩ ⟨(Nat.le_of_ble_eq_true rfl), (Nat.le_of_ble_eq_true rfl)⟩ rfl (cs_use (cs_Mo_entry (S := (F, S.2)) (t := k) (by omega) (fun M hS => ?_)) hS)
        obtain ⟨F1, hF1⟩ : ∃ F1, en_F F k = F1 := ⟨_, rfl⟩
        replace hS : rp_ g M (F1, S.2) := by rw [← hF1]; exact hS
        have r1 : rec_ F1 ≤ 1540 := by rw [← hF1, en_rec]; exact hr2
        have r2 : F1 60 11 = nI (rec_ F1) := by rw [← hF1, en_rec, en_oth _ _ _ _ (by omega)]; exact hr
        refine jj_istore (lv' := [(6, .int _), (5, .int (nI (k))), (4, .int (b)), (3, .int (a)), (2, .int (z)), (0, .ref (g 60)), (1, .int (w))]) dd_Mo_sweep_183 (Nat.le_of_ble_eq_true rfl) rfl ?_
        refine jj_iload 0 dd_Mo_sweep_185 rfl ?_
        refine jj_if_eq (tgt := 200) dd_Mo_sweep_187 (by decide) (fun h187 => ?_) (fun h187 => ?_)
        · skip
          refine jj_aload_n 5 dd_Mo_sweep_200 rfl ?_
          refine jj_rS (n := 77) hS dd_Mo_sweep_201 ff_Mo_47 rfl (fun _ => rfl) rfl ?_
          refine jj_iload 1 dd_Mo_sweep_204 rfl ?_
          refine jj_zS hS dd_Mo_sweep_206 rfl (vp_in_nI (n := k) (by omega) (by decide)) (k) (nI_clamp (n := k) (by omega)) ?_
          refine jj_if_ne (tgt := 214) dd_Mo_sweep_207 (by decide) (fun h207 => ?_) (fun h207 => ?_)
          · skip
            refine jj_iconst (v := 0) dd_Mo_sweep_214 rfl ?_
            refine jj_istore (lv' := [(4, .int (0)), (6, .int _), (5, .int (nI (k))), (3, .int (a)), (2, .int (z)), (0, .ref (g 60)), (1, .int (w))]) dd_Mo_sweep_215 (Nat.le_of_ble_eq_true rfl) rfl ?_
            refine jj_iinc 2 (lv' := [(5, .int (nI (k + 1))), (4, .int (0)), (6, .int _), (3, .int (a)), (2, .int (z)), (0, .ref (g 60)), (1, .int (w))]) dd_Mo_sweep_217 rfl (nI_1 k) (Nat.le_of_ble_eq_true rfl) rfl ?_
            refine jj_goto (tgt := 166) dd_Mo_sweep_220 (by decide) ?_
            refine jj_sub [0, 1, 3, 4, 5, 6] rfl ?_
            unfold sw_go at hQ
            rw [if_neg h174, if_pos h187, hF1, if_neg h207] at hQ
            exact ih _ _ _ _ F1 _ (by omega) r1 r2 hS hQ
          · skip
            refine jj_iconst (v := 1) dd_Mo_sweep_210 rfl ?_
            refine jj_goto (tgt := 215) dd_Mo_sweep_211 (by decide) ?_
            refine jj_istore (lv' := [(4, .int (1)), (6, .int _), (5, .int (nI (k))), (3, .int (a)), (2, .int (z)), (0, .ref (g 60)), (1, .int (w))]) dd_Mo_sweep_215 (Nat.le_of_ble_eq_true rfl) rfl ?_
            refine jj_iinc 2 (lv' := [(5, .int (nI (k + 1))), (4, .int (1)), (6, .int _), (3, .int (a)), (2, .int (z)), (0, .ref (g 60)), (1, .int (w))]) dd_Mo_sweep_217 rfl (nI_1 k) (Nat.le_of_ble_eq_true rfl) rfl ?_
            refine jj_goto (tgt := 166) dd_Mo_sweep_220 (by decide) ?_
            refine jj_sub [0, 1, 3, 4, 5, 6] rfl ?_
            unfold sw_go at hQ
            rw [if_neg h174, if_pos h187, hF1, if_pos h207] at hQ
            exact ih _ _ _ _ F1 _ (by omega) r1 r2 hS hQ
        · skip
          refine jj_aload_n 5 dd_Mo_sweep_190 rfl ?_
          refine jj_iload 1 dd_Mo_sweep_191 rfl ?_
          refine jj_iload_n 6 dd_Mo_sweep_193 rfl ?_
          refine jj_callV (ci := 7) [_, _] [] 0 0 dd_Mo_sweep_194 cs_Mo_180 ci_Mo_180 (hS.1.1 60 _ rfl) ⟨by decide, rfl⟩ rfl (Nat.le_of_ble_eq_true rfl) ⟨(Nat.le_of_ble_eq_true rfl), (Nat.le_of_ble_eq_true rfl)⟩ ⟨(Nat.le_of_ble_eq_true rfl), (Nat.le_of_ble_eq_true rfl)⟩ rfl (cs_use (cs_Mo_sweepTablet (S := (F1, S.2)) (t := k) (by omega) r1 r2 (fun M hS => ?_)) hS)
          obtain ⟨F2, hF2⟩ : ∃ F2, st_F F1 k w = F2 := ⟨_, rfl⟩
          replace hS : rp_ g M (F2, S.2) := by rw [← hF2]; exact hS
          have r3 : rec_ F2 ≤ 1540 := by rw [← hF2, st_rec]; exact r1
          have r4 : F2 60 11 = nI (rec_ F2) := by rw [← hF2, st_rec, st_oth _ _ _ _ _ (by omega) (by omega)]; exact r2
          refine jj_iinc 3 (lv' := [(3, .int (a + 1)), (6, .int _), (5, .int (nI (k))), (4, .int (b)), (2, .int (z)), (0, .ref (g 60)), (1, .int (w))]) dd_Mo_sweep_197 rfl rfl (Nat.le_of_ble_eq_true rfl) rfl ?_
          refine jj_aload_n 5 dd_Mo_sweep_200 rfl ?_
          refine jj_rS (n := 77) hS dd_Mo_sweep_201 ff_Mo_47 rfl (fun _ => rfl) rfl ?_
          refine jj_iload 2 dd_Mo_sweep_204 rfl ?_
          refine jj_zS hS dd_Mo_sweep_206 rfl (vp_in_nI (n := k) (by omega) (by decide)) (k) (nI_clamp (n := k) (by omega)) ?_
          refine jj_if_ne (tgt := 214) dd_Mo_sweep_207 (by decide) (fun h207 => ?_) (fun h207 => ?_)
          · skip
            refine jj_iconst (v := 0) dd_Mo_sweep_214 rfl ?_
            refine jj_istore (lv' := [(4, .int (0)), (3, .int (a + 1)), (6, .int _), (5, .int (nI (k))), (2, .int (z)), (0, .ref (g 60)), (1, .int (w))]) dd_Mo_sweep_215 (Nat.le_of_ble_eq_true rfl) rfl ?_
            refine jj_iinc 3 (lv' := [(5, .int (nI (k + 1))), (4, .int (0)), (3, .int (a + 1)), (6, .int _), (2, .int (z)), (0, .ref (g 60)), (1, .int (w))]) dd_Mo_sweep_217 rfl (nI_1 k) (Nat.le_of_ble_eq_true rfl) rfl ?_
            refine jj_goto (tgt := 166) dd_Mo_sweep_220 (by decide) ?_
            refine jj_sub [0, 1, 2, 4, 5, 6] rfl ?_
            unfold sw_go at hQ
            rw [if_neg h174, if_neg h187, hF1, hF2, if_neg h207] at hQ
            exact ih _ _ _ _ F2 _ (by omega) r3 r4 hS hQ
          · skip
            refine jj_iconst (v := 1) dd_Mo_sweep_210 rfl ?_
            refine jj_goto (tgt := 215) dd_Mo_sweep_211 (by decide) ?_
            refine jj_istore (lv' := [(4, .int (1)), (3, .int (a + 1)), (6, .int _), (5, .int (nI (k))), (2, .int (z)), (0, .ref (g 60)), (1, .int (w))]) dd_Mo_sweep_215 (Nat.le_of_ble_eq_true rfl) rfl ?_
            refine jj_iinc 3 (lv' := [(5, .int (nI (k + 1))), (4, .int (1)), (3, .int (a + 1)), (6, .int _), (2, .int (z)), (0, .ref (g 60)), (1, .int (w))]) dd_Mo_sweep_217 rfl (nI_1 k) (Nat.le_of_ble_eq_true rfl) rfl ?_
            refine jj_goto (tgt := 166) dd_Mo_sweep_220 (by decide) ?_
            refine jj_sub [0, 1, 2, 4, 5, 6] rfl ?_
            unfold sw_go at hQ
            rw [if_neg h174, if_neg h187, hF1, hF2, if_pos h207] at hQ
            exact ih _ _ _ _ F2 _ (by omega) r3 r4 hS hQ
set_option maxRecDepth 20000 in
theorem sw_loop3 {l : Launch} {g : Nat → Nat} {S : ss_} {Q : Option Value → ss_ → Prop} {w : Int32} {G : mm_G} {A : Nat → Prop} {F : Nat → Nat → Int32} {M : mm_M} (hr2 : rec_ F ≤ 1540) (hr : F 60 11 = nI (rec_ F)) (hS : rp_ g M (F, S.2)) {P : Int32 → Prop} (hP : ∀ z, P z → jj_ l yy_Mo_sweep bb_Mo_sweep 7 (some .int) G (mm_R 2 0 0) A (mm_ret (qs_ g Q)) 0 0 152 [(3, .int (nI (4))), (2, .int (z)), (0, .ref (g 60)), (1, .int (w))] [] M) : ∀ (n k : Nat) (z : Int32), k + n = 4 → P (m3_go F w n k z) → jj_ l yy_Mo_sweep bb_Mo_sweep 7 (some .int) G (mm_R 2 0 0) A (mm_ret (qs_ g Q)) 0 0 111 [(3, .int (nI (k))), (2, .int (z)), (0, .ref (g 60)), (1, .int (w))] [] M := by
  intro n
  induction n with
  | zero =>
    intro k z hk hQ
    have hk : k = 4 := by omega
    subst hk
    refine jj_iload_n 0 dd_Mo_sweep_111 rfl ?_
    refine jj_iconst (v := 4) dd_Mo_sweep_112 rfl ?_
    refine jj_icmp_ge (tgt := 152) dd_Mo_sweep_113 (by decide) (fun h113 => ?_) (fun h113 => ?_)
    · skip
      exact hP _ hQ
    · exact absurd (mm_rfl _) h113
  | succ n ih =>
    intro k z hk hQ
    refine jj_iload_n 0 dd_Mo_sweep_111 rfl ?_
    refine jj_iconst (v := 4) dd_Mo_sweep_112 rfl ?_
    refine jj_icmp_ge (tgt := 152) dd_Mo_sweep_113 (by decide) (fun h113 => ?_) (fun h113 => ?_)
    · exact absurd h113 (nI_ge (b := 4) (by omega) (by decide))
    · skip
      refine jj_iload_n 1 dd_Mo_sweep_116 rfl ?_
      refine jj_if_eq (tgt := 144) dd_Mo_sweep_117 (by decide) (fun h117 => ?_) (fun h117 => ?_)
      · skip
        refine jj_iconst (v := 0) dd_Mo_sweep_144 rfl ?_
        refine jj_istore_n (lv' := [(2, .int (0)), (3, .int (nI (k))), (0, .ref (g 60)), (1, .int (w))]) dd_Mo_sweep_145 (Nat.le_of_ble_eq_true rfl) rfl ?_
        refine jj_iinc 1 (lv' := [(3, .int (nI (k + 1))), (2, .int (0)), (0, .ref (g 60)), (1, .int (w))]) dd_Mo_sweep_146 rfl (nI_1 k) (Nat.le_of_ble_eq_true rfl) rfl ?_
        refine jj_goto (tgt := 111) dd_Mo_sweep_149 (by decide) ?_
        unfold m3_go at hQ
        rw [if_pos h117] at hQ
        exact ih (k + 1) 0 (by omega) hQ
      · skip
        refine jj_aload_n 2 dd_Mo_sweep_120 rfl ?_
        refine jj_rS (n := 83) hS dd_Mo_sweep_121 ff_Mo_66 rfl (fun _ => rfl) rfl ?_
        refine jj_iload_n 0 dd_Mo_sweep_124 rfl ?_
        refine jj_aS hS dd_Mo_sweep_125 rfl (vp_in_nI (n := k) (by omega) (by decide)) (k) (nI_clamp (n := k) (by omega)) ?_
        refine jj_iconst (v := 2) dd_Mo_sweep_126 rfl ?_
        refine jj_icmp_ne (tgt := 140) dd_Mo_sweep_127 (by decide) (fun h127 => ?_) (fun h127 => ?_)
        · skip
          refine jj_iconst (v := 1) dd_Mo_sweep_140 rfl ?_
          refine jj_goto (tgt := 145) dd_Mo_sweep_141 (by decide) ?_
          refine jj_istore_n (lv' := [(2, .int (1)), (3, .int (nI (k))), (0, .ref (g 60)), (1, .int (w))]) dd_Mo_sweep_145 (Nat.le_of_ble_eq_true rfl) rfl ?_
          refine jj_iinc 1 (lv' := [(3, .int (nI (k + 1))), (2, .int (1)), (0, .ref (g 60)), (1, .int (w))]) dd_Mo_sweep_146 rfl (nI_1 k) (Nat.le_of_ble_eq_true rfl) rfl ?_
          refine jj_goto (tgt := 111) dd_Mo_sweep_149 (by decide) ?_
          unfold m3_go at hQ
          rw [if_neg h117, if_neg h127] at hQ
          exact ih (k + 1) 1 (by omega) hQ
        · skip
          refine jj_aload_n 2 dd_Mo_sweep_130 rfl ?_
          refine jj_rS (n := 84) hS dd_Mo_sweep_131 ff_Mo_69 rfl (fun _ => rfl) rfl ?_
          refine jj_iload_n 0 dd_Mo_sweep_134 rfl ?_
          refine jj_aS hS dd_Mo_sweep_135 rfl (vp_in_nI (n := k) (by omega) (by decide)) (k) (nI_clamp (n := k) (by omega)) ?_
          refine jj_iload_n 3 dd_Mo_sweep_136 rfl ?_
          refine jj_icmp_lt (tgt := 144) dd_Mo_sweep_137 (by decide) (fun h137 => ?_) (fun h137 => ?_)
          · skip
            refine jj_iconst (v := 0) dd_Mo_sweep_144 rfl ?_
            refine jj_istore_n (lv' := [(2, .int (0)), (3, .int (nI (k))), (0, .ref (g 60)), (1, .int (w))]) dd_Mo_sweep_145 (Nat.le_of_ble_eq_true rfl) rfl ?_
            refine jj_iinc 1 (lv' := [(3, .int (nI (k + 1))), (2, .int (0)), (0, .ref (g 60)), (1, .int (w))]) dd_Mo_sweep_146 rfl (nI_1 k) (Nat.le_of_ble_eq_true rfl) rfl ?_
            refine jj_goto (tgt := 111) dd_Mo_sweep_149 (by decide) ?_
            unfold m3_go at hQ
            rw [if_neg h117, if_pos h127, if_pos h137] at hQ
            exact ih (k + 1) 0 (by omega) hQ
          · skip
            refine jj_iconst (v := 1) dd_Mo_sweep_140 rfl ?_
            refine jj_goto (tgt := 145) dd_Mo_sweep_141 (by decide) ?_
            refine jj_istore_n (lv' := [(2, .int (1)), (3, .int (nI (k))), (0, .ref (g 60)), (1, .int (w))]) dd_Mo_sweep_145 (Nat.le_of_ble_eq_true rfl) rfl ?_
            refine jj_iinc 1 (lv' := [(3, .int (nI (k + 1))), (2, .int (1)), (0, .ref (g 60)), (1, .int (w))]) dd_Mo_sweep_146 rfl (nI_1 k) (Nat.le_of_ble_eq_true rfl) rfl ?_
            refine jj_goto (tgt := 111) dd_Mo_sweep_149 (by decide) ?_
            unfold m3_go at hQ
            rw [if_neg h117, if_pos h127, if_neg h137] at hQ
            exact ih (k + 1) 1 (by omega) hQ
set_option maxRecDepth 20000 in
theorem sw_loop2 {l : Launch} {g : Nat → Nat} {S : ss_} {Q : Option Value → ss_ → Prop} {w : Int32} {G : mm_G} {A : Nat → Prop} {F : Nat → Nat → Int32} {M : mm_M} (hr2 : rec_ F ≤ 1540) (hr : F 60 11 = nI (rec_ F)) (hS : rp_ g M (F, S.2)) {P : Int32 → Prop} (hP : ∀ z, P z → jj_ l yy_Mo_sweep bb_Mo_sweep 7 (some .int) G (mm_R 2 0 0) A (mm_ret (qs_ g Q)) 0 0 111 [(3, .int (0)), (2, .int (z)), (0, .ref (g 60)), (1, .int (w))] [] M) : ∀ (n k : Nat) (z : Int32), k + n = 12 → P (m2_go F w n k z) → jj_ l yy_Mo_sweep bb_Mo_sweep 7 (some .int) G (mm_R 2 0 0) A (mm_ret (qs_ g Q)) 0 0 68 [(3, .int (nI (k))), (2, .int (z)), (0, .ref (g 60)), (1, .int (w))] [] M := by
  intro n
  induction n with
  | zero =>
    intro k z hk hQ
    have hk : k = 12 := by omega
    subst hk
    refine jj_iload_n 0 dd_Mo_sweep_68 rfl ?_
    refine jj_bipush (v := 12) dd_Mo_sweep_69 rfl ?_
    refine jj_icmp_ge (tgt := 109) dd_Mo_sweep_71 (by decide) (fun h71 => ?_) (fun h71 => ?_)
    · skip
      refine jj_iconst (v := 0) dd_Mo_sweep_109 rfl ?_
      refine jj_istore_n (lv' := [(3, .int (0)), (2, .int (z)), (0, .ref (g 60)), (1, .int (w))]) dd_Mo_sweep_110 (Nat.le_of_ble_eq_true rfl) rfl ?_
      exact hP _ hQ
    · exact absurd (mm_rfl _) h71
  | succ n ih =>
    intro k z hk hQ
    refine jj_iload_n 0 dd_Mo_sweep_68 rfl ?_
    refine jj_bipush (v := 12) dd_Mo_sweep_69 rfl ?_
    refine jj_icmp_ge (tgt := 109) dd_Mo_sweep_71 (by decide) (fun h71 => ?_) (fun h71 => ?_)
    · exact absurd h71 (nI_ge (b := 12) (by omega) (by decide))
    · skip
      refine jj_iload_n 1 dd_Mo_sweep_74 rfl ?_
      refine jj_if_eq (tgt := 101) dd_Mo_sweep_75 (by decide) (fun h75 => ?_) (fun h75 => ?_)
      · skip
        refine jj_iconst (v := 0) dd_Mo_sweep_101 rfl ?_
        refine jj_istore_n (lv' := [(2, .int (0)), (3, .int (nI (k))), (0, .ref (g 60)), (1, .int (w))]) dd_Mo_sweep_102 (Nat.le_of_ble_eq_true rfl) rfl ?_
        refine jj_iinc 1 (lv' := [(3, .int (nI (k + 1))), (2, .int (0)), (0, .ref (g 60)), (1, .int (w))]) dd_Mo_sweep_103 rfl (nI_1 k) (Nat.le_of_ble_eq_true rfl) rfl ?_
        refine jj_goto (tgt := 68) dd_Mo_sweep_106 (by decide) ?_
        unfold m2_go at hQ
        rw [if_pos h75] at hQ
        exact ih (k + 1) 0 (by omega) hQ
      · skip
        refine jj_aload_n 2 dd_Mo_sweep_78 rfl ?_
        refine jj_rS (n := 65) hS dd_Mo_sweep_79 ff_Mo_13 rfl (fun _ => rfl) rfl ?_
        refine jj_iload_n 0 dd_Mo_sweep_82 rfl ?_
        refine jj_aS hS dd_Mo_sweep_83 rfl (vp_in_nI (n := k) (by omega) (by decide)) (k) (nI_clamp (n := k) (by omega)) ?_
        refine jj_if_eq (tgt := 97) dd_Mo_sweep_84 (by decide) (fun h84 => ?_) (fun h84 => ?_)
        · skip
          refine jj_iconst (v := 1) dd_Mo_sweep_97 rfl ?_
          refine jj_goto (tgt := 102) dd_Mo_sweep_98 (by decide) ?_
          refine jj_istore_n (lv' := [(2, .int (1)), (3, .int (nI (k))), (0, .ref (g 60)), (1, .int (w))]) dd_Mo_sweep_102 (Nat.le_of_ble_eq_true rfl) rfl ?_
          refine jj_iinc 1 (lv' := [(3, .int (nI (k + 1))), (2, .int (1)), (0, .ref (g 60)), (1, .int (w))]) dd_Mo_sweep_103 rfl (nI_1 k) (Nat.le_of_ble_eq_true rfl) rfl ?_
          refine jj_goto (tgt := 68) dd_Mo_sweep_106 (by decide) ?_
          unfold m2_go at hQ
          rw [if_neg h75, if_pos h84] at hQ
          exact ih (k + 1) 1 (by omega) hQ
        · skip
          refine jj_aload_n 2 dd_Mo_sweep_87 rfl ?_
          refine jj_rS (n := 65) hS dd_Mo_sweep_88 ff_Mo_13 rfl (fun _ => rfl) rfl ?_
          refine jj_iload_n 0 dd_Mo_sweep_91 rfl ?_
          refine jj_aS hS dd_Mo_sweep_92 rfl (vp_in_nI (n := k) (by omega) (by decide)) (k) (nI_clamp (n := k) (by omega)) ?_
          refine jj_iload_n 3 dd_Mo_sweep_93 rfl ?_
          refine jj_icmp_lt (tgt := 101) dd_Mo_sweep_94 (by decide) (fun h94 => ?_) (fun h94 => ?_)
          · skip
            refine jj_iconst (v := 0) dd_Mo_sweep_101 rfl ?_
            refine jj_istore_n (lv' := [(2, .int (0)), (3, .int (nI (k))), (0, .ref (g 60)), (1, .int (w))]) dd_Mo_sweep_102 (Nat.le_of_ble_eq_true rfl) rfl ?_
            refine jj_iinc 1 (lv' := [(3, .int (nI (k + 1))), (2, .int (0)), (0, .ref (g 60)), (1, .int (w))]) dd_Mo_sweep_103 rfl (nI_1 k) (Nat.le_of_ble_eq_true rfl) rfl ?_
            refine jj_goto (tgt := 68) dd_Mo_sweep_106 (by decide) ?_
            unfold m2_go at hQ
            rw [if_neg h75, if_neg h84, if_pos h94] at hQ
            exact ih (k + 1) 0 (by omega) hQ
          · skip
            refine jj_iconst (v := 1) dd_Mo_sweep_97 rfl ?_
            refine jj_goto (tgt := 102) dd_Mo_sweep_98 (by decide) ?_
            refine jj_istore_n (lv' := [(2, .int (1)), (3, .int (nI (k))), (0, .ref (g 60)), (1, .int (w))]) dd_Mo_sweep_102 (Nat.le_of_ble_eq_true rfl) rfl ?_
            refine jj_iinc 1 (lv' := [(3, .int (nI (k + 1))), (2, .int (1)), (0, .ref (g 60)), (1, .int (w))]) dd_Mo_sweep_103 rfl (nI_1 k) (Nat.le_of_ble_eq_true rfl) rfl ?_
            refine jj_goto (tgt := 68) dd_Mo_sweep_106 (by decide) ?_
            unfold m2_go at hQ
            rw [if_neg h75, if_neg h84, if_neg h94] at hQ
            exact ih (k + 1) 1 (by omega) hQ
set_option maxRecDepth 20000 in
theorem sw_loop1 {l : Launch} {g : Nat → Nat} {S : ss_} {Q : Option Value → ss_ → Prop} {w : Int32} {G : mm_G} {A : Nat → Prop} {F : Nat → Nat → Int32} {M : mm_M} (hr2 : rec_ F ≤ 1540) (hr : F 60 11 = nI (rec_ F)) (hS : rp_ g M (F, S.2)) {P : Int32 → Prop} (hP : ∀ z, P z → jj_ l yy_Mo_sweep bb_Mo_sweep 7 (some .int) G (mm_R 2 0 0) A (mm_ret (qs_ g Q)) 0 0 68 [(3, .int (0)), (2, .int (z)), (0, .ref (g 60)), (1, .int (w))] [] M) : ∀ (n k : Nat) (z : Int32), k + n = 3 → P (m1_go F w n k z) → jj_ l yy_Mo_sweep bb_Mo_sweep 7 (some .int) G (mm_R 2 0 0) A (mm_ret (qs_ g Q)) 0 0 26 [(3, .int (nI (k))), (2, .int (z)), (0, .ref (g 60)), (1, .int (w))] [] M := by
  intro n
  induction n with
  | zero =>
    intro k z hk hQ
    have hk : k = 3 := by omega
    subst hk
    refine jj_iload_n 0 dd_Mo_sweep_26 rfl ?_
    refine jj_iconst (v := 3) dd_Mo_sweep_27 rfl ?_
    refine jj_icmp_ge (tgt := 66) dd_Mo_sweep_28 (by decide) (fun h28 => ?_) (fun h28 => ?_)
    · skip
      refine jj_iconst (v := 0) dd_Mo_sweep_66 rfl ?_
      refine jj_istore_n (lv' := [(3, .int (0)), (2, .int (z)), (0, .ref (g 60)), (1, .int (w))]) dd_Mo_sweep_67 (Nat.le_of_ble_eq_true rfl) rfl ?_
      exact hP _ hQ
    · exact absurd (mm_rfl _) h28
  | succ n ih =>
    intro k z hk hQ
    refine jj_iload_n 0 dd_Mo_sweep_26 rfl ?_
    refine jj_iconst (v := 3) dd_Mo_sweep_27 rfl ?_
    refine jj_icmp_ge (tgt := 66) dd_Mo_sweep_28 (by decide) (fun h28 => ?_) (fun h28 => ?_)
    · exact absurd h28 (nI_ge (b := 3) (by omega) (by decide))
    · skip
      refine jj_iload_n 1 dd_Mo_sweep_31 rfl ?_
      refine jj_if_eq (tgt := 58) dd_Mo_sweep_32 (by decide) (fun h32 => ?_) (fun h32 => ?_)
      · skip
        refine jj_iconst (v := 0) dd_Mo_sweep_58 rfl ?_
        refine jj_istore_n (lv' := [(2, .int (0)), (3, .int (nI (k))), (0, .ref (g 60)), (1, .int (w))]) dd_Mo_sweep_59 (Nat.le_of_ble_eq_true rfl) rfl ?_
        refine jj_iinc 1 (lv' := [(3, .int (nI (k + 1))), (2, .int (0)), (0, .ref (g 60)), (1, .int (w))]) dd_Mo_sweep_60 rfl (nI_1 k) (Nat.le_of_ble_eq_true rfl) rfl ?_
        refine jj_goto (tgt := 26) dd_Mo_sweep_63 (by decide) ?_
        unfold m1_go at hQ
        rw [if_pos h32] at hQ
        exact ih (k + 1) 0 (by omega) hQ
      · skip
        refine jj_aload_n 2 dd_Mo_sweep_35 rfl ?_
        refine jj_rS (n := 77) hS dd_Mo_sweep_36 ff_Mo_47 rfl (fun _ => rfl) rfl ?_
        refine jj_iload_n 0 dd_Mo_sweep_39 rfl ?_
        refine jj_zS hS dd_Mo_sweep_40 rfl (vp_in_nI (n := k) (by omega) (by decide)) (k) (nI_clamp (n := k) (by omega)) ?_
        refine jj_if_ne (tgt := 58) dd_Mo_sweep_41 (by decide) (fun h41 => ?_) (fun h41 => ?_)
        · skip
          refine jj_iconst (v := 0) dd_Mo_sweep_58 rfl ?_
          refine jj_istore_n (lv' := [(2, .int (0)), (3, .int (nI (k))), (0, .ref (g 60)), (1, .int (w))]) dd_Mo_sweep_59 (Nat.le_of_ble_eq_true rfl) rfl ?_
          refine jj_iinc 1 (lv' := [(3, .int (nI (k + 1))), (2, .int (0)), (0, .ref (g 60)), (1, .int (w))]) dd_Mo_sweep_60 rfl (nI_1 k) (Nat.le_of_ble_eq_true rfl) rfl ?_
          refine jj_goto (tgt := 26) dd_Mo_sweep_63 (by decide) ?_
          unfold m1_go at hQ
          rw [if_neg h32, if_neg h41] at hQ
          exact ih (k + 1) 0 (by omega) hQ
        · skip
          refine jj_iload_n 3 dd_Mo_sweep_44 rfl ?_
          refine jj_aload_n 2 dd_Mo_sweep_45 rfl ?_
          refine jj_rS (n := 78) hS dd_Mo_sweep_46 ff_Mo_51 rfl (fun _ => rfl) rfl ?_
          refine jj_iload_n 0 dd_Mo_sweep_49 rfl ?_
          refine jj_aS hS dd_Mo_sweep_50 rfl (vp_in_nI (n := k) (by omega) (by decide)) (k) (nI_clamp (n := k) (by omega)) ?_
          refine jj_icmp_le (tgt := 58) dd_Mo_sweep_51 (by decide) (fun h51 => ?_) (fun h51 => ?_)
          · skip
            refine jj_iconst (v := 0) dd_Mo_sweep_58 rfl ?_
            refine jj_istore_n (lv' := [(2, .int (0)), (3, .int (nI (k))), (0, .ref (g 60)), (1, .int (w))]) dd_Mo_sweep_59 (Nat.le_of_ble_eq_true rfl) rfl ?_
            refine jj_iinc 1 (lv' := [(3, .int (nI (k + 1))), (2, .int (0)), (0, .ref (g 60)), (1, .int (w))]) dd_Mo_sweep_60 rfl (nI_1 k) (Nat.le_of_ble_eq_true rfl) rfl ?_
            refine jj_goto (tgt := 26) dd_Mo_sweep_63 (by decide) ?_
            unfold m1_go at hQ
            rw [if_neg h32, if_pos h41, if_pos h51] at hQ
            exact ih (k + 1) 0 (by omega) hQ
          · skip
            refine jj_iconst (v := 1) dd_Mo_sweep_54 rfl ?_
            refine jj_goto (tgt := 59) dd_Mo_sweep_55 (by decide) ?_
            refine jj_istore_n (lv' := [(2, .int (1)), (3, .int (nI (k))), (0, .ref (g 60)), (1, .int (w))]) dd_Mo_sweep_59 (Nat.le_of_ble_eq_true rfl) rfl ?_
            refine jj_iinc 1 (lv' := [(3, .int (nI (k + 1))), (2, .int (1)), (0, .ref (g 60)), (1, .int (w))]) dd_Mo_sweep_60 rfl (nI_1 k) (Nat.le_of_ble_eq_true rfl) rfl ?_
            refine jj_goto (tgt := 26) dd_Mo_sweep_63 (by decide) ?_
            unfold m1_go at hQ
            rw [if_neg h32, if_pos h41, if_neg h51] at hQ
            exact ih (k + 1) 1 (by omega) hQ
set_option maxRecDepth 20000 in
theorem sw_loop0 {l : Launch} {g : Nat → Nat} {S : ss_} {Q : Option Value → ss_ → Prop} {w : Int32} {G : mm_G} {A : Nat → Prop} {F : Nat → Nat → Int32} {M : mm_M} (hr2 : rec_ F ≤ 1540) (hr : F 60 11 = nI (rec_ F)) (hS : rp_ g M (F, S.2)) : ∀ (z : Int32), sw_ F w z (fun r F => Q (some (.int r)) (F, S.2)) → jj_ l yy_Mo_sweep bb_Mo_sweep 7 (some .int) G (mm_R 2 0 0) A (mm_ret (qs_ g Q)) 0 0 152 [(3, .int (nI (4))), (2, .int (z)), (0, .ref (g 60)), (1, .int (w))] [] M := by
  intro z hQ
  unfold sw_ at hQ
  refine jj_iload_n 1 dd_Mo_sweep_152 rfl ?_
  refine jj_if_ne (tgt := 158) dd_Mo_sweep_153 (by decide) (fun h153 => ?_) (fun h153 => ?_)
  · skip
    refine jj_iconst (v := 0) dd_Mo_sweep_158 rfl ?_
    refine jj_istore_n (lv' := [(3, .int (0)), (2, .int (z)), (0, .ref (g 60)), (1, .int (w))]) dd_Mo_sweep_159 (Nat.le_of_ble_eq_true rfl) rfl ?_
    refine jj_iconst (v := 1) dd_Mo_sweep_160 rfl ?_
    refine jj_istore (lv' := [(4, .int (1)), (3, .int (0)), (2, .int (z)), (0, .ref (g 60)), (1, .int (w))]) dd_Mo_sweep_161 (Nat.le_of_ble_eq_true rfl) rfl ?_
    refine jj_iconst (v := 0) dd_Mo_sweep_163 rfl ?_
    refine jj_istore (lv' := [(5, .int (0)), (4, .int (1)), (3, .int (0)), (2, .int (z)), (0, .ref (g 60)), (1, .int (w))]) dd_Mo_sweep_164 (Nat.le_of_ble_eq_true rfl) rfl ?_
    rw [if_neg h153] at hQ
    exact sw_loop4 3 0 _ _ _ _ _ (by omega) hr2 hr hS hQ
  · skip
    refine jj_iconst (v := (-1)) dd_Mo_sweep_156 rfl ?_
    refine jj_iret dd_Mo_sweep_157 rfl rfl ?_
    rw [if_pos h153] at hQ
    exact ⟨_, hS, hQ⟩
set_option linter.constructorNameAsVariable false in
set_option maxRecDepth 20000 in
theorem cs_Mo_sweep {l : Launch} {g : Nat → Nat} {S : ss_} {Q : Option Value → ss_ → Prop} {w : Int32} {F : Nat → Nat → Int32} (hF : uf_ S.1 60 1 0 = F) (hr2 : rec_ F ≤ 1540) (hr : F 60 11 = nI (rec_ F)) (hQ : sw_ F w (sw_m F w) (fun r F => Q (some (.int r)) (F, S.2))) : cs_ l yy_Mo_sweep bb_Mo_sweep 7 (some .int) 2 0 0 g [.ref (g 60), .int w] S Q := by
  intro M hS
  refine ct_of (by decide) (Nat.le_of_ble_eq_true rfl) (fun G A => ?_)
  refine jj_aload_n 0 dd_Mo_sweep_0 rfl ?_
  refine jj_iconst (v := 0) dd_Mo_sweep_1 rfl ?_
  refine jj_pS hS dd_Mo_sweep_2 ⟨ff_Mo_93, rfl⟩ rfl (fun _ => rfl) ⟨rfl, rfl⟩ (fun M hS => ?_)
  rw [hF] at hS
  refine jj_iload_n 1 dd_Mo_sweep_5 rfl ?_
  refine jj_iconst (v := 1) dd_Mo_sweep_6 rfl ?_
  refine jj_icmp_lt (tgt := 22) dd_Mo_sweep_7 (by decide) (fun h7 => ?_) (fun h7 => ?_)
  · skip
    refine jj_iconst (v := 0) dd_Mo_sweep_22 rfl ?_
    refine jj_istore_n (lv' := [(2, .int (0)), (0, .ref (g 60)), (1, .int (w))]) dd_Mo_sweep_23 (Nat.le_of_ble_eq_true rfl) rfl ?_
    refine jj_iconst (v := 0) dd_Mo_sweep_24 rfl ?_
    refine jj_istore_n (lv' := [(3, .int (0)), (2, .int (0)), (0, .ref (g 60)), (1, .int (w))]) dd_Mo_sweep_25 (Nat.le_of_ble_eq_true rfl) rfl ?_
    unfold sw_m m0_ at hQ
    rw [if_pos h7] at hQ
    obtain ⟨f2, hf2⟩ : ∃ f : Int32 → Int32, f = m2_go F w 12 0 := ⟨_, rfl⟩
    obtain ⟨f3, hf3⟩ : ∃ f : Int32 → Int32, f = m3_go F w 4 0 := ⟨_, rfl⟩
    rw [← hf2, ← hf3] at hQ
    refine sw_loop1 hr2 hr hS (P := fun z => sw_ F w (f3 (f2 z)) (fun r F => Q (some (.int r)) (F, S.2))) (fun z hz => ?_) 3 0 _ (by omega) hQ
    refine sw_loop2 hr2 hr hS (P := fun z => sw_ F w (f3 z) (fun r F => Q (some (.int r)) (F, S.2))) (fun z hz => ?_) 12 0 z (by omega) (by rw [← hf2]; exact hz)
    refine sw_loop3 hr2 hr hS (P := fun z => sw_ F w z (fun r F => Q (some (.int r)) (F, S.2))) (sw_loop0 hr2 hr hS) 4 0 z (by omega) (by rw [← hf3]; exact hz)
  · skip
    refine jj_iload_n 1 dd_Mo_sweep_10 rfl ?_
    refine jj_aload_n 0 dd_Mo_sweep_11 rfl ?_
    refine jj_gS hS dd_Mo_sweep_12 ff_Mo_7 rfl (fun _ => rfl) ?_
    refine jj_icmp_gt (tgt := 22) dd_Mo_sweep_15 (by decide) (fun h15 => ?_) (fun h15 => ?_)
    · skip
      refine jj_iconst (v := 0) dd_Mo_sweep_22 rfl ?_
      refine jj_istore_n (lv' := [(2, .int (0)), (0, .ref (g 60)), (1, .int (w))]) dd_Mo_sweep_23 (Nat.le_of_ble_eq_true rfl) rfl ?_
      refine jj_iconst (v := 0) dd_Mo_sweep_24 rfl ?_
      refine jj_istore_n (lv' := [(3, .int (0)), (2, .int (0)), (0, .ref (g 60)), (1, .int (w))]) dd_Mo_sweep_25 (Nat.le_of_ble_eq_true rfl) rfl ?_
      unfold sw_m m0_ at hQ
      rw [if_neg h7, if_pos h15] at hQ
      obtain ⟨f2, hf2⟩ : ∃ f : Int32 → Int32, f = m2_go F w 12 0 := ⟨_, rfl⟩
      obtain ⟨f3, hf3⟩ : ∃ f : Int32 → Int32, f = m3_go F w 4 0 := ⟨_, rfl⟩
      rw [← hf2, ← hf3] at hQ
      refine sw_loop1 hr2 hr hS (P := fun z => sw_ F w (f3 (f2 z)) (fun r F => Q (some (.int r)) (F, S.2))) (fun z hz => ?_) 3 0 _ (by omega) hQ
      refine sw_loop2 hr2 hr hS (P := fun z => sw_ F w (f3 z) (fun r F => Q (some (.int r)) (F, S.2))) (fun z hz => ?_) 12 0 z (by omega) (by rw [← hf2]; exact hz)
      refine sw_loop3 hr2 hr hS (P := fun z => sw_ F w z (fun r F => Q (some (.int r)) (F, S.2))) (sw_loop0 hr2 hr hS) 4 0 z (by omega) (by rw [← hf3]; exact hz)
    · skip
      refine jj_iconst (v := 1) dd_Mo_sweep_18 rfl ?_
      refine jj_goto (tgt := 23) dd_Mo_sweep_19 (by decide) ?_
      refine jj_istore_n (lv' := [(2, .int (1)), (0, .ref (g 60)), (1, .int (w))]) dd_Mo_sweep_23 (Nat.le_of_ble_eq_true rfl) rfl ?_
      refine jj_iconst (v := 0) dd_Mo_sweep_24 rfl ?_
      refine jj_istore_n (lv' := [(3, .int (0)), (2, .int (1)), (0, .ref (g 60)), (1, .int (w))]) dd_Mo_sweep_25 (Nat.le_of_ble_eq_true rfl) rfl ?_
      unfold sw_m m0_ at hQ
      rw [if_neg h7, if_neg h15] at hQ
      obtain ⟨f2, hf2⟩ : ∃ f : Int32 → Int32, f = m2_go F w 12 0 := ⟨_, rfl⟩
      obtain ⟨f3, hf3⟩ : ∃ f : Int32 → Int32, f = m3_go F w 4 0 := ⟨_, rfl⟩
      rw [← hf2, ← hf3] at hQ
      refine sw_loop1 hr2 hr hS (P := fun z => sw_ F w (f3 (f2 z)) (fun r F => Q (some (.int r)) (F, S.2))) (fun z hz => ?_) 3 0 _ (by omega) hQ
      refine sw_loop2 hr2 hr hS (P := fun z => sw_ F w (f3 z) (fun r F => Q (some (.int r)) (F, S.2))) (fun z hz => ?_) 12 0 z (by omega) (by rw [← hf2]; exact hz)
      refine sw_loop3 hr2 hr hS (P := fun z => sw_ F w z (fun r F => Q (some (.int r)) (F, S.2))) (sw_loop0 hr2 hr hS) 4 0 z (by omega) (by rw [← hf3]; exact hz)
