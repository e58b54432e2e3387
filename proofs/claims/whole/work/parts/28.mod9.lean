theorem jj_ldc {l : Launch} {y : MethodName} {cc : ByteArray} {nL : Nat} {ret : Option FieldType} {G : mm_G} {R : Room} {A : Nat → Prop} {Q : mm_O → mm_M → Prop} {mc ms pc : Nat} {lv : List (Nat × Value)} {st : List Value} {M : mm_M} {idx : Nat} {v : Int32} (hd : decode cc pc = .ok (.ldc idx, 2)) (hw : Cond.constant y.cls idx v ∈ nn_TS) (k : jj_ l y cc nL ret G R A Q mc ms (pc + 2) lv (.int v :: st) M) : jj_ l y cc nL ret G R A Q mc ms pc lv st M := by
  intro p e s m args below meth c H locs cells slots ls hE hH hl hL hr
  exact lv_ldc hE.1 hE.2.1 hE.2.2.2.1 (hE.2.2.2.2.1 _ hw) hd (k p e s m args below meth c H locs cells slots ls hE hH hl hL hr)
theorem cc_Mo_184 : Cond.constant "TabletCommitsModel" 184 2147483647 ∈ nn_TS := (nn_in 897 (by decide +kernel) rfl)
def rc_go (F : Nat → Nat → Int32) (c b : Int32) : Nat → Nat → Int32 → Int32
  | 0, _, z => z
  | n + 1, k, z => rc_go F c b n (k + 1) (if F 72 k = c then if F 75 k ≤ 0 then z else if b ≤ F 73 k then z else if z < 0 then nI k else if F 73 k ≤ F 73 z.toNatClampNeg then z else nI k else z)
def rc_ (F : Nat → Nat → Int32) (c b : Int32) : Int32 := rc_go F c b (rec_ F) 0 (-1)
def rw_ (F : Nat → Nat → Int32) (z : Int32) : Int32 := if 0 ≤ z then F 73 z.toNatClampNeg else 0
def ro_go (F : Nat → Nat → Int32) (c kk : Int32) : Nat → Nat → Int32 → Int32 → Int32
  | 0, _, _, z => z
  | f + 1, k, b, z => if kk < nI k then z else if nI k = 0 then ro_go F c kk f (k + 1) (rw_ F (rc_ F c b)) (rc_ F c b) else if z < 0 then z else ro_go F c kk f (k + 1) (rw_ F (rc_ F c b)) (rc_ F c b)
def ra_ (F : Nat → Nat → Int32) (y z : Int32) (K : Int32 → (Nat → Nat → Int32) → Prop) : Prop :=
  if 0 ≤ z then (if y = 0 then K (F 73 z.toNatClampNeg) F else if y = 1 then K (F 74 z.toNatClampNeg) F else if y = 2 then K (F 75 z.toNatClampNeg) F else if F 75 z.toNatClampNeg = 1 then K (F 76 z.toNatClampNeg) F else K 0 F) else K (-1) F
abbrev rf_ (F : Nat → Nat → Int32) (c b : Int32) (k : Nat) : Prop := F 72 k = c ∧ ¬ F 75 k ≤ 0 ∧ ¬ b ≤ F 73 k
def rn_ (F : Nat → Nat → Int32) (c b : Int32) : Nat → Nat
  | 0 => 0
  | n + 1 => rn_ F c b n + if rf_ F c b n then 1 else 0
theorem rn_le (F : Nat → Nat → Int32) (c b : Int32) : ∀ n, rn_ F c b n ≤ n := by
  intro n
  induction n with
  | zero => exact Nat.le_refl _
  | succ n ih =>
    unfold rn_
    split <;> omega
theorem rn_mono (F : Nat → Nat → Int32) (c : Int32) {b b' : Int32} (h : b' ≤ b) : ∀ n, rn_ F c b' n ≤ rn_ F c b n := by
  intro n
  induction n with
  | zero => exact Nat.le_refl _
  | succ n ih =>
    unfold rn_
    by_cases h1 : rf_ F c b' n
    · have h2 : rf_ F c b n := ⟨h1.1, h1.2.1, fun h3 => h1.2.2 (by rw [Int32.le_iff_toInt_le] at *; omega)⟩
      rw [if_pos h1, if_pos h2]; omega
    · rw [if_neg h1]; omega
theorem rn_lt (F : Nat → Nat → Int32) (c : Int32) {b : Int32} {j : Nat} (hj : rf_ F c b j) : ∀ n, j < n → rn_ F c (F 73 j) n < rn_ F c b n := by
  have hle : F 73 j ≤ b := by
    have h := hj.2.2
    rw [Int32.le_iff_toInt_le] at *; omega
  intro n
  induction n with
  | zero => intro h; omega
  | succ n ih =>
    intro h
    unfold rn_
    by_cases e : j = n
    · subst e
      have h1 : ¬ rf_ F c (F 73 j) j := fun h => h.2.2 (mm_rfl _)
      rw [if_neg h1, if_pos hj]
      have := rn_mono F c hle j
      omega
    · have h3 := ih (by omega)
      by_cases h1 : rf_ F c (F 73 j) n
      · have h2 : rf_ F c b n := ⟨h1.1, h1.2.1, fun h3 => h1.2.2 (by rw [Int32.le_iff_toInt_le] at *; omega)⟩
        rw [if_pos h1, if_pos h2]; omega
      · rw [if_neg h1]; omega
theorem rc_gx (F : Nat → Nat → Int32) (c b : Int32) : ∀ (n k N : Nat) (z : Int32), k + n = N → N ≤ 1540 → (z < 0 ∨ ∃ j, j < N ∧ z = nI j ∧ rf_ F c b j) → (rc_go F c b n k z < 0 ∨ ∃ j, j < N ∧ rc_go F c b n k z = nI j ∧ rf_ F c b j) := by
  intro n
  induction n with
  | zero => intro k N z _ _ h; exact h
  | succ n ih =>
    intro k N z hk hN h
    unfold rc_go
    refine ih _ N _ (by omega) hN ?_
    by_cases h1 : F 72 k = c
    · rw [if_pos h1]
      by_cases h2 : F 75 k ≤ 0
      · rw [if_pos h2]; exact h
      · rw [if_neg h2]
        by_cases h3 : b ≤ F 73 k
        · rw [if_pos h3]; exact h
        · rw [if_neg h3]
          have hk' : ∃ j, j < N ∧ nI k = nI j ∧ rf_ F c b j := ⟨k, by omega, rfl, h1, h2, h3⟩
          by_cases h4 : z < 0
          · rw [if_pos h4]; exact Or.inr hk'
          · rw [if_neg h4]
            split
            · exact h
            · exact Or.inr hk'
    · rw [if_neg h1]; exact h
theorem rc_ix {F : Nat → Nat → Int32} {c b : Int32} (hr : rec_ F ≤ 1540) : rc_ F c b < 0 ∨ (vp_in (rc_ F c b) 1540 ∧ rn_ F c (rw_ F (rc_ F c b)) (rec_ F) < rn_ F c b (rec_ F)) := by
  rcases rc_gx F c b (rec_ F) 0 (rec_ F) (-1) (by omega) hr (Or.inl (by decide)) with h | ⟨j, h1, h2, h3⟩
  · exact Or.inl h
  · have h2 : rc_ F c b = nI j := h2
    right
    rw [h2]
    refine ⟨vp_in_nI (by omega) (by decide), ?_⟩
    have h0 : (0 : Int32) ≤ nI j := mm_le (nI_pos (by omega))
    unfold rw_
    rw [if_pos h0, nI_clamp (by omega)]
    exact rn_lt F c h3 _ h1
set_option maxRecDepth 20000 in
theorem cs_Mo_record {l : Launch} {g : Nat → Nat} {S : ss_} {Q : Option Value → ss_ → Prop} {i : Nat} {kk y : Int32} {F : Nat → Nat → Int32} (hF : uf_ S.1 60 1 0 = F) (hi : i < 12) (hk : ¬ kk < 0) (hy : ¬ y < 0) (hy2 : ¬ 3 < y) (hr : F 60 11 = nI (rec_ F)) (hr2 : rec_ F ≤ 1540) (hQ : if F 77 (i / 4) = 0 then ra_ F y (ro_go F (nI i) kk (rec_ F + 2) 0 2147483647 (-1)) (fun r F => Q (some (.int r)) (F, S.2)) else Q (some (.int (-1))) (F, S.2)) : cs_ l yy_Mo_record bb_Mo_record 9 (some .int) 2 0 0 g [.ref (g 60), .int (nI i), .int kk, .int y] S Q := by
  intro M hS
  refine ct_of (by decide) (Nat.le_of_ble_eq_true rfl) (fun G A => ?_)
  refine jj_aload_n 0 dd_Mo_record_0 rfl ?_
  refine jj_iconst (v := 0) dd_Mo_record_1 rfl ?_
  refine jj_pS hS dd_Mo_record_2 ⟨ff_Mo_93, rfl⟩ rfl (fun _ => rfl) ⟨rfl, rfl⟩ (fun M hS => ?_)
  rw [hF] at hS
  have fin_ : ∀ (q z b : Int32), ix_ z 1540 → ra_ F y z (fun r F => Q (some (.int r)) (F, S.2)) → jj_ l yy_Mo_record bb_Mo_record 9 (some .int) G (mm_R 2 0 0) A (mm_ret (qs_ g Q)) 0 0 185 [(6, .int (q)), (5, .int (z)), (4, .int (b)), (0, .ref (g 60)), (1, .int (nI (i))), (2, .int (kk)), (3, .int (y))] [] M := by
    intro q z b hz hQ
    unfold ra_ at hQ
    refine jj_iload 1 dd_Mo_record_185 rfl ?_
    refine jj_if_ge (tgt := 192) dd_Mo_record_187 (by decide) (fun h187 => ?_) (fun h187 => ?_)
    · skip
      refine jj_iload_n 6 dd_Mo_record_192 rfl ?_
      refine jj_if_ne (tgt := 206) dd_Mo_record_193 (by decide) (fun h193 => ?_) (fun h193 => ?_)
      · skip
        refine jj_iload_n 6 dd_Mo_record_206 rfl ?_
        refine jj_iconst (v := 1) dd_Mo_record_207 rfl ?_
        refine jj_icmp_ne (tgt := 221) dd_Mo_record_208 (by decide) (fun h208 => ?_) (fun h208 => ?_)
        · skip
          refine jj_iload_n 6 dd_Mo_record_221 rfl ?_
          refine jj_iconst (v := 2) dd_Mo_record_222 rfl ?_
          refine jj_icmp_ne (tgt := 236) dd_Mo_record_223 (by decide) (fun h223 => ?_) (fun h223 => ?_)
          · skip
            refine jj_aload_n 3 dd_Mo_record_236 rfl ?_
            refine jj_rS (n := 75) hS dd_Mo_record_237 ff_Mo_41 rfl (fun _ => rfl) rfl ?_
            refine jj_iload 1 dd_Mo_record_240 rfl ?_
            refine jj_aS hS dd_Mo_record_242 rfl (ix_in hz (mm_nlt h187)) (z.toNatClampNeg) rfl ?_
            refine jj_iconst (v := 1) dd_Mo_record_243 rfl ?_
            refine jj_icmp_ne (tgt := 257) dd_Mo_record_244 (by decide) (fun h244 => ?_) (fun h244 => ?_)
            · skip
              refine jj_iconst (v := 0) dd_Mo_record_257 rfl ?_
              refine jj_iret dd_Mo_record_258 rfl rfl ?_
              rw [if_pos h187, if_neg h193, if_neg h208, if_neg h223, if_neg h244] at hQ
              exact ⟨_, hS, hQ⟩
            · skip
              refine jj_aload_n 3 dd_Mo_record_247 rfl ?_
              refine jj_rS (n := 76) hS dd_Mo_record_248 ff_Mo_44 rfl (fun _ => rfl) rfl ?_
              refine jj_iload 1 dd_Mo_record_251 rfl ?_
              refine jj_aS hS dd_Mo_record_253 rfl (ix_in hz (mm_nlt h187)) (z.toNatClampNeg) rfl ?_
              refine jj_goto (tgt := 258) dd_Mo_record_254 (by decide) ?_
              refine jj_iret dd_Mo_record_258 rfl rfl ?_
              rw [if_pos h187, if_neg h193, if_neg h208, if_neg h223, if_pos h244] at hQ
              exact ⟨_, hS, hQ⟩
          · skip
            refine jj_aload_n 3 dd_Mo_record_226 rfl ?_
            refine jj_rS (n := 75) hS dd_Mo_record_227 ff_Mo_41 rfl (fun _ => rfl) rfl ?_
            refine jj_iload 1 dd_Mo_record_230 rfl ?_
            refine jj_aS hS dd_Mo_record_232 rfl (ix_in hz (mm_nlt h187)) (z.toNatClampNeg) rfl ?_
            refine jj_goto (tgt := 258) dd_Mo_record_233 (by decide) ?_
            refine jj_iret dd_Mo_record_258 rfl rfl ?_
            rw [if_pos h187, if_neg h193, if_neg h208, if_pos h223] at hQ
            exact ⟨_, hS, hQ⟩
        · skip
          refine jj_aload_n 3 dd_Mo_record_211 rfl ?_
          refine jj_rS (n := 74) hS dd_Mo_record_212 ff_Mo_38 rfl (fun _ => rfl) rfl ?_
          refine jj_iload 1 dd_Mo_record_215 rfl ?_
          refine jj_aS hS dd_Mo_record_217 rfl (ix_in hz (mm_nlt h187)) (z.toNatClampNeg) rfl ?_
          refine jj_goto (tgt := 258) dd_Mo_record_218 (by decide) ?_
          refine jj_iret dd_Mo_record_258 rfl rfl ?_
          rw [if_pos h187, if_neg h193, if_pos h208] at hQ
          exact ⟨_, hS, hQ⟩
      · skip
        refine jj_aload_n 3 dd_Mo_record_196 rfl ?_
        refine jj_rS (n := 73) hS dd_Mo_record_197 ff_Mo_35 rfl (fun _ => rfl) rfl ?_
        refine jj_iload 1 dd_Mo_record_200 rfl ?_
        refine jj_aS hS dd_Mo_record_202 rfl (ix_in hz (mm_nlt h187)) (z.toNatClampNeg) rfl ?_
        refine jj_goto (tgt := 258) dd_Mo_record_203 (by decide) ?_
        refine jj_iret dd_Mo_record_258 rfl rfl ?_
        rw [if_pos h187, if_pos h193] at hQ
        exact ⟨_, hS, hQ⟩
    · skip
      refine jj_iconst (v := (-1)) dd_Mo_record_190 rfl ?_
      refine jj_iret dd_Mo_record_191 rfl rfl ?_
      rw [if_neg h187] at hQ
      exact ⟨_, hS, hQ⟩
  have inner : ∀ (n k q : Nat) (b z : Int32), k + n = rec_ F → ix_ z 1540 → (ix_ (rc_go F (nI i) b n k z) 1540 → jj_ l yy_Mo_record bb_Mo_record 9 (some .int) G (mm_R 2 0 0) A (mm_ret (qs_ g Q)) 0 0 161 [(7, .int (nI (rec_ F))), (5, .int (rc_go F (nI i) b n k z)), (6, .int (nI (q))), (4, .int (b)), (0, .ref (g 60)), (1, .int (nI (i))), (2, .int (kk)), (3, .int (y))] [] M) → jj_ l yy_Mo_record bb_Mo_record 9 (some .int) G (mm_R 2 0 0) A (mm_ret (qs_ g Q)) 0 0 70 [(7, .int (nI (k))), (5, .int (z)), (6, .int (nI (q))), (4, .int (b)), (0, .ref (g 60)), (1, .int (nI (i))), (2, .int (kk)), (3, .int (y))] [] M := by
    intro n
    induction n with
    | zero =>
      intro k q b z hk hz hQ
      have hk : k = rec_ F := by omega
      subst hk
      refine jj_iload 0 dd_Mo_record_70 rfl ?_
      refine jj_aload_n 4 dd_Mo_record_72 rfl ?_
      refine jj_gS hS dd_Mo_record_73 ff_Mo_99 rfl (fun _ => rfl) ?_
      refine jj_ti (x' := nI (rec_ F)) hr ?_
      refine jj_icmp_ge (tgt := 161) dd_Mo_record_76 (by decide) (fun h76 => ?_) (fun h76 => ?_)
      · skip
        exact hQ hz
      · exact absurd (mm_rfl _) h76
    | succ n ih =>
      intro k q b z hk hz hQ
      refine jj_iload 0 dd_Mo_record_70 rfl ?_
      refine jj_aload_n 4 dd_Mo_record_72 rfl ?_
      refine jj_gS hS dd_Mo_record_73 ff_Mo_99 rfl (fun _ => rfl) ?_
      refine jj_ti (x' := nI (rec_ F)) hr ?_
      refine jj_icmp_ge (tgt := 161) dd_Mo_record_76 (by decide) (fun h76 => ?_) (fun h76 => ?_)
      · exact absurd h76 (nI_ge (by omega) (by omega))
      · skip
        refine jj_aload_n 4 dd_Mo_record_79 rfl ?_
        refine jj_rS (n := 72) hS dd_Mo_record_80 ff_Mo_32 rfl (fun _ => rfl) rfl ?_
        refine jj_iload 0 dd_Mo_record_83 rfl ?_
        refine jj_aS hS dd_Mo_record_85 rfl (vp_in_nI (n := k) (by omega) (by decide)) (k) (nI_clamp (n := k) (by omega)) ?_
        refine jj_iload_n 5 dd_Mo_record_86 rfl ?_
        refine jj_icmp_ne (tgt := 116) dd_Mo_record_87 (by decide) (fun h87 => ?_) (fun h87 => ?_)
        · skip
          refine jj_iconst (v := 0) dd_Mo_record_116 rfl ?_
          refine jj_istore (lv' := [(8, .int (0)), (7, .int (nI (k))), (5, .int (z)), (6, .int (nI (q))), (4, .int (b)), (0, .ref (g 60)), (1, .int (nI (i))), (2, .int (kk)), (3, .int (y))]) dd_Mo_record_117 (Nat.le_of_ble_eq_true rfl) rfl ?_
          refine jj_iload 0 dd_Mo_record_119 rfl ?_
          refine jj_if_eq (tgt := 151) dd_Mo_record_121 (by decide) (fun _ => ?_) (fun h => absurd h (by decide))
          refine jj_iload 2 dd_Mo_record_151 rfl ?_
          refine jj_istore (lv' := [(5, .int (z)), (8, .int (0)), (7, .int (nI (k))), (6, .int (nI (q))), (4, .int (b)), (0, .ref (g 60)), (1, .int (nI (i))), (2, .int (kk)), (3, .int (y))]) dd_Mo_record_153 (Nat.le_of_ble_eq_true rfl) rfl ?_
          refine jj_iinc 2 (lv' := [(7, .int (nI (k + 1))), (5, .int (z)), (8, .int (0)), (6, .int (nI (q))), (4, .int (b)), (0, .ref (g 60)), (1, .int (nI (i))), (2, .int (kk)), (3, .int (y))]) dd_Mo_record_155 rfl (nI_1 k) (Nat.le_of_ble_eq_true rfl) rfl ?_
          refine jj_goto (tgt := 70) dd_Mo_record_158 (by decide) ?_
          refine jj_sub [0, 1, 3, 4, 5, 6, 7, 8] rfl ?_
          unfold rc_go at hQ
          rw [if_neg h87] at hQ
          exact ih _ _ _ _ (by omega) (by first | exact hz | exact Or.inr (vp_in_nI (n := k) (by omega) (by decide))) hQ
        · skip
          refine jj_aload_n 4 dd_Mo_record_90 rfl ?_
          refine jj_rS (n := 75) hS dd_Mo_record_91 ff_Mo_41 rfl (fun _ => rfl) rfl ?_
          refine jj_iload 0 dd_Mo_record_94 rfl ?_
          refine jj_aS hS dd_Mo_record_96 rfl (vp_in_nI (n := k) (by omega) (by decide)) (k) (nI_clamp (n := k) (by omega)) ?_
          refine jj_if_le (tgt := 116) dd_Mo_record_97 (by decide) (fun h97 => ?_) (fun h97 => ?_)
          · skip
            refine jj_iconst (v := 0) dd_Mo_record_116 rfl ?_
            refine jj_istore (lv' := [(8, .int (0)), (7, .int (nI (k))), (5, .int (z)), (6, .int (nI (q))), (4, .int (b)), (0, .ref (g 60)), (1, .int (nI (i))), (2, .int (kk)), (3, .int (y))]) dd_Mo_record_117 (Nat.le_of_ble_eq_true rfl) rfl ?_
            refine jj_iload 0 dd_Mo_record_119 rfl ?_
            refine jj_if_eq (tgt := 151) dd_Mo_record_121 (by decide) (fun _ => ?_) (fun h => absurd h (by decide))
            refine jj_iload 2 dd_Mo_record_151 rfl ?_
            refine jj_istore (lv' := [(5, .int (z)), (8, .int (0)), (7, .int (nI (k))), (6, .int (nI (q))), (4, .int (b)), (0, .ref (g 60)), (1, .int (nI (i))), (2, .int (kk)), (3, .int (y))]) dd_Mo_record_153 (Nat.le_of_ble_eq_true rfl) rfl ?_
            refine jj_iinc 2 (lv' := [(7, .int (nI (k + 1))), (5, .int (z)), (8, .int (0)), (6, .int (nI (q))), (4, .int (b)), (0, .ref (g 60)), (1, .int (nI (i))), (2, .int (kk)), (3, .int (y))]) dd_Mo_record_155 rfl (nI_1 k) (Nat.le_of_ble_eq_true rfl) rfl ?_
            refine jj_goto (tgt := 70) dd_Mo_record_158 (by decide) ?_
            refine jj_sub [0, 1, 3, 4, 5, 6, 7, 8] rfl ?_
            unfold rc_go at hQ
            rw [if_pos h87, if_pos h97] at hQ
            exact ih _ _ _ _ (by omega) (by first | exact hz | exact Or.inr (vp_in_nI (n := k) (by omega) (by decide))) hQ
          · skip
            refine jj_aload_n 4 dd_Mo_record_100 rfl ?_
            refine jj_rS (n := 73) hS dd_Mo_record_101 ff_Mo_35 rfl (fun _ => rfl) rfl ?_
            refine jj_iload 0 dd_Mo_record_104 rfl ?_
            refine jj_aS hS dd_Mo_record_106 rfl (vp_in_nI (n := k) (by omega) (by decide)) (k) (nI_clamp (n := k) (by omega)) ?_
            refine jj_iload 3 dd_Mo_record_107 rfl ?_
            refine jj_icmp_ge (tgt := 116) dd_Mo_record_109 (by decide) (fun h109 => ?_) (fun h109 => ?_)
            · skip
              refine jj_iconst (v := 0) dd_Mo_record_116 rfl ?_
              refine jj_istore (lv' := [(8, .int (0)), (7, .int (nI (k))), (5, .int (z)), (6, .int (nI (q))), (4, .int (b)), (0, .ref (g 60)), (1, .int (nI (i))), (2, .int (kk)), (3, .int (y))]) dd_Mo_record_117 (Nat.le_of_ble_eq_true rfl) rfl ?_
              refine jj_iload 0 dd_Mo_record_119 rfl ?_
              refine jj_if_eq (tgt := 151) dd_Mo_record_121 (by decide) (fun _ => ?_) (fun h => absurd h (by decide))
              refine jj_iload 2 dd_Mo_record_151 rfl ?_
              refine jj_istore (lv' := [(5, .int (z)), (8, .int (0)), (7, .int (nI (k))), (6, .int (nI (q))), (4, .int (b)), (0, .ref (g 60)), (1, .int (nI (i))), (2, .int (kk)), (3, .int (y))]) dd_Mo_record_153 (Nat.le_of_ble_eq_true rfl) rfl ?_
              refine jj_iinc 2 (lv' := [(7, .int (nI (k + 1))), (5, .int (z)), (8, .int (0)), (6, .int (nI (q))), (4, .int (b)), (0, .ref (g 60)), (1, .int (nI (i))), (2, .int (kk)), (3, .int (y))]) dd_Mo_record_155 rfl (nI_1 k) (Nat.le_of_ble_eq_true rfl) rfl ?_
              refine jj_goto (tgt := 70) dd_Mo_record_158 (by decide) ?_
              refine jj_sub [0, 1, 3, 4, 5, 6, 7, 8] rfl ?_
              unfold rc_go at hQ
              rw [if_pos h87, if_neg h97, if_pos h109] at hQ
              exact ih _ _ _ _ (by omega) (by first | exact hz | exact Or.inr (vp_in_nI (n := k) (by omega) (by decide))) hQ
            · skip
              refine jj_iconst (v := 1) dd_Mo_record_112 rfl ?_
              refine jj_goto (tgt := 117) dd_Mo_record_113 (by decide) ?_
              refine jj_istore (lv' := [(8, .int (1)), (7, .int (nI (k))), (5, .int (z)), (6, .int (nI (q))), (4, .int (b)), (0, .ref (g 60)), (1, .int (nI (i))), (2, .int (kk)), (3, .int (y))]) dd_Mo_record_117 (Nat.le_of_ble_eq_true rfl) rfl ?_
              refine jj_iload 0 dd_Mo_record_119 rfl ?_
              refine jj_if_eq (tgt := 151) dd_Mo_record_121 (by decide) (fun h => absurd h (by decide)) (fun _ => ?_)
              refine jj_iload 2 dd_Mo_record_124 rfl ?_
              refine jj_if_lt (tgt := 146) dd_Mo_record_126 (by decide) (fun h126 => ?_) (fun h126 => ?_)
              · skip
                refine jj_iload 1 dd_Mo_record_146 rfl ?_
                refine jj_goto (tgt := 153) dd_Mo_record_148 (by decide) ?_
                refine jj_istore (lv' := [(5, .int (nI (k))), (8, .int (1)), (7, .int (nI (k))), (6, .int (nI (q))), (4, .int (b)), (0, .ref (g 60)), (1, .int (nI (i))), (2, .int (kk)), (3, .int (y))]) dd_Mo_record_153 (Nat.le_of_ble_eq_true rfl) rfl ?_
                refine jj_iinc 2 (lv' := [(7, .int (nI (k + 1))), (5, .int (nI (k))), (8, .int (1)), (6, .int (nI (q))), (4, .int (b)), (0, .ref (g 60)), (1, .int (nI (i))), (2, .int (kk)), (3, .int (y))]) dd_Mo_record_155 rfl (nI_1 k) (Nat.le_of_ble_eq_true rfl) rfl ?_
                refine jj_goto (tgt := 70) dd_Mo_record_158 (by decide) ?_
                refine jj_sub [0, 1, 3, 4, 5, 6, 7, 8] rfl ?_
                unfold rc_go at hQ
                rw [if_pos h87, if_neg h97, if_neg h109, if_pos h126] at hQ
                exact ih _ _ _ _ (by omega) (by first | exact hz | exact Or.inr (vp_in_nI (n := k) (by omega) (by decide))) hQ
              · skip
                refine jj_aload_n 5 dd_Mo_record_129 rfl ?_
                refine jj_rS (n := 73) hS dd_Mo_record_130 ff_Mo_35 rfl (fun _ => rfl) rfl ?_
                refine jj_iload 1 dd_Mo_record_133 rfl ?_
                refine jj_aS hS dd_Mo_record_135 rfl (vp_in_nI (n := k) (by omega) (by decide)) (k) (nI_clamp (n := k) (by omega)) ?_
                refine jj_aload_n 5 dd_Mo_record_136 rfl ?_
                refine jj_rS (n := 73) hS dd_Mo_record_137 ff_Mo_35 rfl (fun _ => rfl) rfl ?_
                refine jj_iload 2 dd_Mo_record_140 rfl ?_
                refine jj_aS hS dd_Mo_record_142 rfl (ix_in hz h126) (z.toNatClampNeg) rfl ?_
                refine jj_icmp_le (tgt := 151) dd_Mo_record_143 (by decide) (fun h143 => ?_) (fun h143 => ?_)
                · skip
                  refine jj_iload 2 dd_Mo_record_151 rfl ?_
                  refine jj_istore (lv' := [(5, .int (z)), (8, .int (1)), (7, .int (nI (k))), (6, .int (nI (q))), (4, .int (b)), (0, .ref (g 60)), (1, .int (nI (i))), (2, .int (kk)), (3, .int (y))]) dd_Mo_record_153 (Nat.le_of_ble_eq_true rfl) rfl ?_
                  refine jj_iinc 2 (lv' := [(7, .int (nI (k + 1))), (5, .int (z)), (8, .int (1)), (6, .int (nI (q))), (4, .int (b)), (0, .ref (g 60)), (1, .int (nI (i))), (2, .int (kk)), (3, .int (y))]) dd_Mo_record_155 rfl (nI_1 k) (Nat.le_of_ble_eq_true rfl) rfl ?_
                  refine jj_goto (tgt := 70) dd_Mo_record_158 (by decide) ?_
                  refine jj_sub [0, 1, 3, 4, 5, 6, 7, 8] rfl ?_
                  unfold rc_go at hQ
                  rw [if_pos h87, if_neg h97, if_neg h109, if_neg h126, if_pos h143] at hQ
                  exact ih _ _ _ _ (by omega) (by first | exact hz | exact Or.inr (vp_in_nI (n := k) (by omega) (by decide))) hQ
                · skip
                  refine jj_iload 1 dd_Mo_record_146 rfl ?_
                  refine jj_goto (tgt := 153) dd_Mo_record_148 (by decide) ?_
                  refine jj_istore (lv' := [(5, .int (nI (k))), (8, .int (1)), (7, .int (nI (k))), (6, .int (nI (q))), (4, .int (b)), (0, .ref (g 60)), (1, .int (nI (i))), (2, .int (kk)), (3, .int (y))]) dd_Mo_record_153 (Nat.le_of_ble_eq_true rfl) rfl ?_
                  refine jj_iinc 2 (lv' := [(7, .int (nI (k + 1))), (5, .int (nI (k))), (8, .int (1)), (6, .int (nI (q))), (4, .int (b)), (0, .ref (g 60)), (1, .int (nI (i))), (2, .int (kk)), (3, .int (y))]) dd_Mo_record_155 rfl (nI_1 k) (Nat.le_of_ble_eq_true rfl) rfl ?_
                  refine jj_goto (tgt := 70) dd_Mo_record_158 (by decide) ?_
                  refine jj_sub [0, 1, 3, 4, 5, 6, 7, 8] rfl ?_
                  unfold rc_go at hQ
                  rw [if_pos h87, if_neg h97, if_neg h109, if_neg h126, if_neg h143] at hQ
                  exact ih _ _ _ _ (by omega) (by first | exact hz | exact Or.inr (vp_in_nI (n := k) (by omega) (by decide))) hQ
  have loop : ∀ (f k : Nat) (b z : Int32), k + f = rec_ F + 2 → ix_ z 1540 → (rn_ F (nI i) b (rec_ F) + 2 ≤ f ∨ (z < 0 ∧ k ≠ 0 ∧ 1 ≤ f)) → ra_ F y (ro_go F (nI i) kk f k b z) (fun r F => Q (some (.int r)) (F, S.2)) → jj_ l yy_Mo_record bb_Mo_record 9 (some .int) G (mm_R 2 0 0) A (mm_ret (qs_ g Q)) 0 0 48 [(6, .int (nI (k))), (5, .int (z)), (4, .int (b)), (0, .ref (g 60)), (1, .int (nI (i))), (2, .int (kk)), (3, .int (y))] [] M := by
    intro f
    induction f with
    | zero =>
      intro k b z hk hz hI hQ
      rcases hI with h | h
      · omega
      · omega
    | succ f ih =>
      intro k b z hk hz hI hQ
      unfold ro_go at hQ
      refine jj_iload 0 dd_Mo_record_48 rfl ?_
      refine jj_iload_n 5 dd_Mo_record_50 rfl ?_
      refine jj_icmp_gt (tgt := 185) dd_Mo_record_51 (by decide) (fun h51 => ?_) (fun h51 => ?_)
      · skip
        rw [if_pos h51] at hQ
        exact fin_ _ _ _ hz hQ
      · skip
        refine jj_iload 0 dd_Mo_record_54 rfl ?_
        refine jj_if_eq (tgt := 64) dd_Mo_record_56 (by decide) (fun h56 => ?_) (fun h56 => ?_)
        · skip
          refine jj_iconst (v := (-1)) dd_Mo_record_64 rfl ?_
          refine jj_istore (lv' := [(5, .int ((-1))), (6, .int (nI (k))), (4, .int (b)), (0, .ref (g 60)), (1, .int (nI (i))), (2, .int (kk)), (3, .int (y))]) dd_Mo_record_65 (Nat.le_of_ble_eq_true rfl) rfl ?_
          refine jj_iconst (v := 0) dd_Mo_record_67 rfl ?_
          refine jj_istore (lv' := [(7, .int (0)), (5, .int ((-1))), (6, .int (nI (k))), (4, .int (b)), (0, .ref (g 60)), (1, .int (nI (i))), (2, .int (kk)), (3, .int (y))]) dd_Mo_record_68 (Nat.le_of_ble_eq_true rfl) rfl ?_
          rw [if_neg h51, if_pos h56] at hQ
          refine inner (rec_ F) 0 k b (-1) (by omega) (Or.inl (by decide)) (fun hz2 => ?_)
          change ix_ (rc_ F (nI i) b) 1540 at hz2
          rw [show rc_go F (nI i) b (rec_ F) 0 (-1) = rc_ F (nI i) b from rfl]
          have hI2 : rn_ F (nI i) b (rec_ F) + 2 ≤ f + 1 := hI.resolve_right (fun h => by first | exact absurd h.1 h61 | exact absurd h56 (nI_ne0 (Nat.pos_of_ne_zero h.2.1) (by omega)))
          have hI3 := rc_ix (F := F) (c := nI i) (b := b) hr2
          unfold rw_ at hQ hI3
          refine jj_iload 1 dd_Mo_record_161 rfl ?_
          refine jj_if_ge (tgt := 170) dd_Mo_record_163 (by decide) (fun h163 => ?_) (fun h163 => ?_)
          · skip
            refine jj_aload_n 4 dd_Mo_record_170 rfl ?_
            refine jj_rS (n := 73) hS dd_Mo_record_171 ff_Mo_35 rfl (fun _ => rfl) rfl ?_
            refine jj_iload 1 dd_Mo_record_174 rfl ?_
            refine jj_aS hS dd_Mo_record_176 rfl (ix_in hz2 (mm_nlt h163)) ((rc_ F (nI i) b).toNatClampNeg) rfl ?_
            refine jj_istore (lv' := [(4, .int _), (7, .int (nI (rec_ F))), (5, .int (rc_ F (nI i) b)), (6, .int (nI (k))), (0, .ref (g 60)), (1, .int (nI (i))), (2, .int (kk)), (3, .int (y))]) dd_Mo_record_177 (Nat.le_of_ble_eq_true rfl) rfl ?_
            refine jj_iinc 3 (lv' := [(6, .int (nI (k + 1))), (4, .int _), (7, .int (nI (rec_ F))), (5, .int (rc_ F (nI i) b)), (0, .ref (g 60)), (1, .int (nI (i))), (2, .int (kk)), (3, .int (y))]) dd_Mo_record_179 rfl (nI_1 k) (Nat.le_of_ble_eq_true rfl) rfl ?_
            refine jj_goto (tgt := 48) dd_Mo_record_182 (by decide) ?_
            refine jj_sub [0, 3, 1, 4, 5, 6, 7] rfl ?_
            rw [if_pos h163] at hQ
            skip
            exact ih (k + 1) _ _ (by omega) hz2 (by first | (rw [if_neg h163] at *; exact Or.inr ⟨mm_lt h163, by omega, by omega⟩) | (rw [if_pos h163] at hI3; have := (hI3.resolve_left (mm_nlt h163)).2; exact Or.inl (by show rn_ F (nI i) (F 73 (rc_ F (nI i) b).toNatClampNeg) (rec_ F) + 2 ≤ f; omega))) hQ
          · skip
            refine jj_iconst (v := 0) dd_Mo_record_166 rfl ?_
            refine jj_goto (tgt := 177) dd_Mo_record_167 (by decide) ?_
            refine jj_istore (lv' := [(4, .int (0)), (7, .int (nI (rec_ F))), (5, .int (rc_ F (nI i) b)), (6, .int (nI (k))), (0, .ref (g 60)), (1, .int (nI (i))), (2, .int (kk)), (3, .int (y))]) dd_Mo_record_177 (Nat.le_of_ble_eq_true rfl) rfl ?_
            refine jj_iinc 3 (lv' := [(6, .int (nI (k + 1))), (4, .int (0)), (7, .int (nI (rec_ F))), (5, .int (rc_ F (nI i) b)), (0, .ref (g 60)), (1, .int (nI (i))), (2, .int (kk)), (3, .int (y))]) dd_Mo_record_179 rfl (nI_1 k) (Nat.le_of_ble_eq_true rfl) rfl ?_
            refine jj_goto (tgt := 48) dd_Mo_record_182 (by decide) ?_
            refine jj_sub [0, 3, 1, 4, 5, 6, 7] rfl ?_
            rw [if_neg h163] at hQ
            skip
            exact ih (k + 1) _ _ (by omega) hz2 (by first | (rw [if_neg h163] at *; exact Or.inr ⟨mm_lt h163, by omega, by omega⟩) | (rw [if_pos h163] at hI3; have := (hI3.resolve_left (mm_nlt h163)).2; exact Or.inl (by show rn_ F (nI i) (F 73 (rc_ F (nI i) b).toNatClampNeg) (rec_ F) + 2 ≤ f; omega))) hQ
        · skip
          refine jj_iload 1 dd_Mo_record_59 rfl ?_
          refine jj_if_lt (tgt := 185) dd_Mo_record_61 (by decide) (fun h61 => ?_) (fun h61 => ?_)
          · skip
            rw [if_neg h51, if_neg h56, if_pos h61] at hQ
            exact fin_ _ _ _ hz hQ
          · skip
            refine jj_iconst (v := (-1)) dd_Mo_record_64 rfl ?_
            refine jj_istore (lv' := [(5, .int ((-1))), (6, .int (nI (k))), (4, .int (b)), (0, .ref (g 60)), (1, .int (nI (i))), (2, .int (kk)), (3, .int (y))]) dd_Mo_record_65 (Nat.le_of_ble_eq_true rfl) rfl ?_
            refine jj_iconst (v := 0) dd_Mo_record_67 rfl ?_
            refine jj_istore (lv' := [(7, .int (0)), (5, .int ((-1))), (6, .int (nI (k))), (4, .int (b)), (0, .ref (g 60)), (1, .int (nI (i))), (2, .int (kk)), (3, .int (y))]) dd_Mo_record_68 (Nat.le_of_ble_eq_true rfl) rfl ?_
            rw [if_neg h51, if_neg h56, if_neg h61] at hQ
            refine inner (rec_ F) 0 k b (-1) (by omega) (Or.inl (by decide)) (fun hz2 => ?_)
            change ix_ (rc_ F (nI i) b) 1540 at hz2
            rw [show rc_go F (nI i) b (rec_ F) 0 (-1) = rc_ F (nI i) b from rfl]
            have hI2 : rn_ F (nI i) b (rec_ F) + 2 ≤ f + 1 := hI.resolve_right (fun h => by first | exact absurd h.1 h61 | exact absurd h56 (nI_ne0 (Nat.pos_of_ne_zero h.2.1) (by omega)))
            have hI3 := rc_ix (F := F) (c := nI i) (b := b) hr2
            unfold rw_ at hQ hI3
            refine jj_iload 1 dd_Mo_record_161 rfl ?_
            refine jj_if_ge (tgt := 170) dd_Mo_record_163 (by decide) (fun h163 => ?_) (fun h163 => ?_)
            · skip
              refine jj_aload_n 4 dd_Mo_record_170 rfl ?_
              refine jj_rS (n := 73) hS dd_Mo_record_171 ff_Mo_35 rfl (fun _ => rfl) rfl ?_
              refine jj_iload 1 dd_Mo_record_174 rfl ?_
              refine jj_aS hS dd_Mo_record_176 rfl (ix_in hz2 (mm_nlt h163)) ((rc_ F (nI i) b).toNatClampNeg) rfl ?_
              refine jj_istore (lv' := [(4, .int _), (7, .int (nI (rec_ F))), (5, .int (rc_ F (nI i) b)), (6, .int (nI (k))), (0, .ref (g 60)), (1, .int (nI (i))), (2, .int (kk)), (3, .int (y))]) dd_Mo_record_177 (Nat.le_of_ble_eq_true rfl) rfl ?_
              refine jj_iinc 3 (lv' := [(6, .int (nI (k + 1))), (4, .int _), (7, .int (nI (rec_ F))), (5, .int (rc_ F (nI i) b)), (0, .ref (g 60)), (1, .int (nI (i))), (2, .int (kk)), (3, .int (y))]) dd_Mo_record_179 rfl (nI_1 k) (Nat.le_of_ble_eq_true rfl) rfl ?_
              refine jj_goto (tgt := 48) dd_Mo_record_182 (by decide) ?_
              refine jj_sub [0, 3, 1, 4, 5, 6, 7] rfl ?_
              rw [if_pos h163] at hQ
              skip
              exact ih (k + 1) _ _ (by omega) hz2 (by first | (rw [if_neg h163] at *; exact Or.inr ⟨mm_lt h163, by omega, by omega⟩) | (rw [if_pos h163] at hI3; have := (hI3.resolve_left (mm_nlt h163)).2; exact Or.inl (by show rn_ F (nI i) (F 73 (rc_ F (nI i) b).toNatClampNeg) (rec_ F) + 2 ≤ f; omega))) hQ
            · skip
              refine jj_iconst (v := 0) dd_Mo_record_166 rfl ?_
              refine jj_goto (tgt := 177) dd_Mo_record_167 (by decide) ?_
              refine jj_istore (lv' := [(4, .int (0)), (7, .int (nI (rec_ F))), (5, .int (rc_ F (nI i) b)), (6, .int (nI (k))), (0, .ref (g 60)), (1, .int (nI (i))), (2, .int (kk)), (3, .int (y))]) dd_Mo_record_177 (Nat.le_of_ble_eq_true rfl) rfl ?_
              refine jj_iinc 3 (lv' := [(6, .int (nI (k + 1))), (4, .int (0)), (7, .int (nI (rec_ F))), (5, .int (rc_ F (nI i) b)), (0, .ref (g 60)), (1, .int (nI (i))), (2, .int (kk)), (3, .int (y))]) dd_Mo_record_179 rfl (nI_1 k) (Nat.le_of_ble_eq_true rfl) rfl ?_
              refine jj_goto (tgt := 48) dd_Mo_record_182 (by decide) ?_
              refine jj_sub [0, 3, 1, 4, 5, 6, 7] rfl ?_
              rw [if_neg h163] at hQ
              skip
              exact ih (k + 1) _ _ (by omega) hz2 (by first | (rw [if_neg h163] at *; exact Or.inr ⟨mm_lt h163, by omega, by omega⟩) | (rw [if_pos h163] at hI3; have := (hI3.resolve_left (mm_nlt h163)).2; exact Or.inl (by show rn_ F (nI i) (F 73 (rc_ F (nI i) b).toNatClampNeg) (rec_ F) + 2 ≤ f; omega))) hQ
  refine jj_iload_n 1 dd_Mo_record_5 rfl ?_
  refine jj_callS [_] [] 0 0 dd_Mo_record_6 cs_Mo_142 ci_Mo_142 rfl (Nat.le_of_ble_eq_true rfl) ⟨(Nat.le_of_ble_eq_true rfl), (Nat.le_of_ble_eq_true rfl)⟩ ⟨(Nat.le_of_ble_eq_true rfl), (Nat.le_of_ble_eq_true rfl)⟩ rfl (ct_Mo_isCell (fun hb => ?_) (fun hb hb2 => ?_))
  · skip
    exact absurd hb (nc_ (n := 11) (by decide) (by omega) (by decide))
  · skip
    refine jj_if_eq (tgt := 36) dd_Mo_record_9 (by decide) (fun h => absurd h (by decide)) (fun _ => ?_)
    refine jj_iload_n 2 dd_Mo_record_12 rfl ?_
    refine jj_if_lt (tgt := 36) dd_Mo_record_13 (by decide) (fun h13 => ?_) (fun h13 => ?_)
    · exact absurd h13 hk
    · skip
      refine jj_iload_n 3 dd_Mo_record_16 rfl ?_
      refine jj_iconst (v := 0) dd_Mo_record_17 rfl ?_
      refine jj_iconst (v := 3) dd_Mo_record_18 rfl ?_
      refine jj_callS [_, _, _] [] 0 0 dd_Mo_record_19 cs_Mo_127 ci_Mo_127 rfl (Nat.le_of_ble_eq_true rfl) ⟨(Nat.le_of_ble_eq_true rfl), (Nat.le_of_ble_eq_true rfl)⟩ ⟨(Nat.le_of_ble_eq_true rfl), (Nat.le_of_ble_eq_true rfl)⟩ rfl (ct_Mo_in (fun hb => ?_) (fun hb hb2 => ?_))
      · skip
        exact absurd hb (fun h => h.elim hy hy2)
      · skip
        refine jj_if_eq (tgt := 36) dd_Mo_record_22 (by decide) (fun h => absurd h (by decide)) (fun _ => ?_)
        refine jj_aload_n 0 dd_Mo_record_25 rfl ?_
        refine jj_rS (n := 77) hS dd_Mo_record_26 ff_Mo_47 rfl (fun _ => rfl) rfl ?_
        refine jj_iload_n 1 dd_Mo_record_29 rfl ?_
        refine jj_iconst (v := 4) dd_Mo_record_30 rfl ?_
        refine jj_idiv dd_Mo_record_31 (by decide) ?_
        refine jj_ti (x' := nI ((i) / 4)) (pk_div (a := i) (d := 4) (by omega) (by decide) (by decide)) ?_
        refine jj_zS hS dd_Mo_record_32 rfl (vp_in_nI (n := (i) / 4) (by omega) (by decide)) ((i) / 4) (nI_clamp (n := (i) / 4) (by omega)) ?_
        refine jj_if_eq (tgt := 38) dd_Mo_record_33 (by decide) (fun h33 => ?_) (fun h33 => ?_)
        · skip
          refine jj_ldc dd_Mo_record_38 cc_Mo_184 ?_
          refine jj_istore (lv' := [(4, .int (2147483647)), (0, .ref (g 60)), (1, .int (nI (i))), (2, .int (kk)), (3, .int (y))]) dd_Mo_record_40 (Nat.le_of_ble_eq_true rfl) rfl ?_
          refine jj_iconst (v := (-1)) dd_Mo_record_42 rfl ?_
          refine jj_istore (lv' := [(5, .int ((-1))), (4, .int (2147483647)), (0, .ref (g 60)), (1, .int (nI (i))), (2, .int (kk)), (3, .int (y))]) dd_Mo_record_43 (Nat.le_of_ble_eq_true rfl) rfl ?_
          refine jj_iconst (v := 0) dd_Mo_record_45 rfl ?_
          refine jj_istore (lv' := [(6, .int (0)), (5, .int ((-1))), (4, .int (2147483647)), (0, .ref (g 60)), (1, .int (nI (i))), (2, .int (kk)), (3, .int (y))]) dd_Mo_record_46 (Nat.le_of_ble_eq_true rfl) rfl ?_
          rw [if_pos h33] at hQ
          exact loop (rec_ F + 2) 0 _ _ (by omega) (Or.inl (by decide)) (Or.inl (Nat.add_le_add_right (rn_le _ _ _ _) 2)) hQ
        · skip
          refine jj_iconst (v := (-1)) dd_Mo_record_36 rfl ?_
          refine jj_iret dd_Mo_record_37 rfl rfl ?_
          rw [if_neg h33] at hQ
          exact ⟨_, hS, hQ⟩
set_option maxRecDepth 20000 in
theorem cs_Mo_record0 {l : Launch} {g : Nat → Nat} {S : ss_} {Q : Option Value → ss_ → Prop} {u kk v : Int32} {F : Nat → Nat → Int32} (hF : uf_ S.1 60 1 0 = F) (hx : (u < 0 ∨ 11 < u) ∨ kk < 0 ∨ (v < 0 ∨ 3 < v)) (hQ : Q (some (.int (-1))) (F, S.2)) : cs_ l yy_Mo_record bb_Mo_record 9 (some .int) 2 0 0 g [.ref (g 60), .int u, .int kk, .int v] S Q := by
  intro M hS
  refine ct_of (by decide) (Nat.le_of_ble_eq_true rfl) (fun G A => ?_)
  refine jj_aload_n 0 dd_Mo_record_0 rfl ?_
  refine jj_iconst (v := 0) dd_Mo_record_1 rfl ?_
  refine jj_pS hS dd_Mo_record_2 ⟨ff_Mo_93, rfl⟩ rfl (fun _ => rfl) ⟨rfl, rfl⟩ (fun M hS => ?_)
  rw [hF] at hS
  refine jj_iload_n 1 dd_Mo_record_5 rfl ?_
  refine jj_callS [_] [] 0 0 dd_Mo_record_6 cs_Mo_142 ci_Mo_142 rfl (Nat.le_of_ble_eq_true rfl) ⟨(Nat.le_of_ble_eq_true rfl), (Nat.le_of_ble_eq_true rfl)⟩ ⟨(Nat.le_of_ble_eq_true rfl), (Nat.le_of_ble_eq_true rfl)⟩ rfl (ct_Mo_isCell (fun hb => ?_) (fun hb hb2 => ?_))
  · skip
    refine jj_if_eq (tgt := 36) dd_Mo_record_9 (by decide) (fun _ => ?_) (fun h => absurd h (by decide))
    refine jj_iconst (v := (-1)) dd_Mo_record_36 rfl ?_
    refine jj_iret dd_Mo_record_37 rfl rfl ?_
    exact ⟨_, hS, hQ⟩
  · skip
    have hv := hx.resolve_left (fun h => h.elim hb hb2)
    refine jj_if_eq (tgt := 36) dd_Mo_record_9 (by decide) (fun h => absurd h (by decide)) (fun _ => ?_)
    refine jj_iload_n 2 dd_Mo_record_12 rfl ?_
    refine jj_if_lt (tgt := 36) dd_Mo_record_13 (by decide) (fun h13 => ?_) (fun h13 => ?_)
    · skip
      refine jj_iconst (v := (-1)) dd_Mo_record_36 rfl ?_
      refine jj_iret dd_Mo_record_37 rfl rfl ?_
      exact ⟨_, hS, hQ⟩
    · skip
      refine jj_iload_n 3 dd_Mo_record_16 rfl ?_
      refine jj_iconst (v := 0) dd_Mo_record_17 rfl ?_
      refine jj_iconst (v := 3) dd_Mo_record_18 rfl ?_
      refine jj_callS [_, _, _] [] 0 0 dd_Mo_record_19 cs_Mo_127 ci_Mo_127 rfl (Nat.le_of_ble_eq_true rfl) ⟨(Nat.le_of_ble_eq_true rfl), (Nat.le_of_ble_eq_true rfl)⟩ ⟨(Nat.le_of_ble_eq_true rfl), (Nat.le_of_ble_eq_true rfl)⟩ rfl (ct_Mo_in (fun hb => ?_) (fun hb hb2 => ?_))
      · skip
        refine jj_if_eq (tgt := 36) dd_Mo_record_22 (by decide) (fun _ => ?_) (fun h => absurd h (by decide))
        refine jj_iconst (v := (-1)) dd_Mo_record_36 rfl ?_
        refine jj_iret dd_Mo_record_37 rfl rfl ?_
        exact ⟨_, hS, hQ⟩
      · skip
        exact absurd (hv.resolve_left h13) (fun h => h.elim hb hb2)
