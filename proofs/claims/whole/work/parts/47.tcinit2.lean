def lfC_ (x : Int32) : Int32 := if 1 < (if x < 20 then x else 20) then (if x < 20 then x else 20) else 1
theorem ti_a {a : Nat} {x : Int32} {s kt kc kx : Nat} {g : Nat → Nat} {M : mm_M} (h : ti_ a x s kt kc kx g M) : g 0 = a := by
  obtain ⟨D, F, O, _, h2, _⟩ := h
  exact h2
theorem ti_r2 {a : Nat} {x : Int32} {s kt kc kx : Nat} {g : Nat → Nat} {M : mm_M} (h : ti_ a x s kt kc kx g M) (hs : 2 ≤ s) : mm_r M a 2 = some (g 2) := by
  obtain ⟨D, F, O, h1, h2, h3, f0, f1, f2, f3, f4, ft, fc, fx⟩ := h
  rw [← h2, h1.2.2.2.1 0 ((h3 0).mpr (Or.inl rfl)) 2, f2 hs]
  rfl
theorem ti_r3 {a : Nat} {x : Int32} {s kt kc kx : Nat} {g : Nat → Nat} {M : mm_M} (h : ti_ a x s kt kc kx g M) (hs : 3 ≤ s) : mm_r M a 3 = some (g 3) := by
  obtain ⟨D, F, O, h1, h2, h3, f0, f1, f2, f3, f4, ft, fc, fx⟩ := h
  rw [← h2, h1.2.2.2.1 0 ((h3 0).mpr (Or.inl rfl)) 3, f3 hs]
  rfl
theorem ti_r4 {a : Nat} {x : Int32} {s kt kc kx : Nat} {g : Nat → Nat} {M : mm_M} (h : ti_ a x s kt kc kx g M) (hs : 4 ≤ s) : mm_r M a 4 = some (g 4) := by
  obtain ⟨D, F, O, h1, h2, h3, f0, f1, f2, f3, f4, ft, fc, fx⟩ := h
  rw [← h2, h1.2.2.2.1 0 ((h3 0).mpr (Or.inl rfl)) 4, f4 hs]
  rfl
theorem ti_rt {a : Nat} {x : Int32} {s kt kc kx t : Nat} {g : Nat → Nat} {M : mm_M} (h : ti_ a x s kt kc kx g M) (hs : 2 ≤ s) (ht : t < kt) : mm_r M (g 2) t = some (g (10 + t)) := by
  obtain ⟨D, F, O, h1, h2, h3, f0, f1, f2, f3, f4, ft, fc, fx⟩ := h
  rw [h1.2.2.2.1 2 ((h3 2).mpr (by unfold dm_; omega)) t, (ft t ht).1]
  rfl
theorem ti_0 {a : Nat} {x : Int32} {s kt kc kx : Nat} {g : Nat → Nat} {M : mm_M} (h : ti_ a x s kt kc kx g M) : mm_k M a = some (.inl 0) := by
  have := ti_k h (Or.inl rfl) (t := .inl 0) rfl
  rw [ti_a h] at this
  exact this
theorem ti_nk {M : mm_M} {a q : Nat} {t t' : mm_K} (h : mm_k M a = some t) (hq : mm_k M q = none) : mm_k (mm_nw M q t') a = some t := by
  rw [mm_k_nw, if_neg (fun e => by rw [e, hq] at h; cases h)]
  exact h
theorem ti_nq {M : mm_M} {q : Nat} {t' : mm_K} : mm_k (mm_nw M q t') q = some t' := by
  rw [mm_k_nw, if_pos rfl]
theorem ti_start {g : Nat → Nat} {M : mm_M} {D : Nat → Bool} {F : Nat → Nat → Int32} {O : Nat → Nat → Option Nat} {a : Nat} {x : Int32} (hC : cn_ g M D F O) (hD : ∀ n, D n = true ↔ n = 0) (ha : g 0 = a) (hF : ∀ j, F 0 j = 0) : ti_ a x 0 0 0 0 g (mm_si M a 0 x) := by
  refine ⟨D, uf_ F 0 0 x, O, cn_si 0 hC ha ((hD 0).mpr rfl), ha, fun n => ?_, ?_⟩
  · rw [hD n]; unfold dm_; omega
  · refine ⟨⟨?_, ?_⟩, fun h => by omega, fun h => by omega, fun h => by omega, fun h => by omega, fun t h => by omega, fun t h => by omega, fun t h => by omega⟩
    · rw [uf_at, if_pos ⟨rfl, rfl⟩]
    · rw [uf_at, if_neg (by omega)]; exact hF 5
set_option maxRecDepth 20000 in
theorem ct_TC_init {l : Launch} {M : mm_M} {Q : Option Value → mm_M → Prop} {g : Nat → Nat} {D : Nat → Bool} {F : Nat → Nat → Int32} {O : Nat → Nat → Option Nat} {a : Nat} {x : Int32} (hC : cn_ g M D F O) (hD : ∀ n, D n = true ↔ n = 0) (ha : g 0 = a) (hF : ∀ j, F 0 j = 0) (hQ : ∀ g' M', ti_ a (lfC_ x) 4 3 12 4 g' M' → Q none M') : ct_ l yy_TC_init bb_TC_init 3 none 2 27 179 [.ref a, .int x] M Q := by
  refine ct_of (by decide) (Nat.le_of_ble_eq_true rfl) (fun G A => ?_)
  have loopX : ∀ (n k : Nat) (g : Nat → Nat) (M : mm_M), k + n = 4 → ti_ a (lfC_ x) 4 3 12 k g M → jj_ l yy_TC_init bb_TC_init 3 none G (mm_R 2 27 179) A (mm_ret Q) (2 * n) (23 * n) 117 [(2, .int (nI k)), (0, .ref a), (1, .int x)] [] M := by
    intro n
    induction n with
    | zero =>
      intro k g M hk hT
      have hk : k = 4 := by omega
      subst hk
      refine jj_iload_n 0 dd_TC_init_117 rfl ?_
      refine jj_iconst (v := 4) dd_TC_init_118 rfl ?_
      refine jj_icmp_ge (tgt := 142) dd_TC_init_119 (by decide) (fun h => ?_) (fun h => absurd (mm_rfl _) h)
      refine jj_vret dd_TC_init_142 rfl ?_
      exact hQ g M hT
    | succ n ih =>
      intro k g M hk hT
      refine jj_iload_n 0 dd_TC_init_117 rfl ?_
      refine jj_iconst (v := 4) dd_TC_init_118 rfl ?_
      refine jj_icmp_ge (tgt := 142) dd_TC_init_119 (by decide) (fun h => absurd h (nI_ge (b := 4) (by omega) (by decide))) (fun h => ?_)
      refine jj_aload_n 1 dd_TC_init_122 rfl ?_
      refine jj_getr dd_TC_init_123 ff_TC_47 (ti_0 hT) (fun _ => rfl) (some (g 4)) (ti_r4 hT (by omega)) ?_
      refine jj_iload_n 0 dd_TC_init_126 rfl ?_
      refine jj_new (ci := 6) (2 * n + 1) (23 * n + 12) dd_TC_init_127 (by decide) cl_TC_45 cn_6 ck_6 (by omega) (by have : nn_N 6 = 11 := rfl; omega) (fun q nq => ?_)
      refine jj_dup dd_TC_init_130 rfl ?_
      refine jj_iload_n 0 dd_TC_init_131 rfl ?_
      refine jj_callI [_] [.ref q, .int (nI k), .ref (g 4)] (2 * n) (23 * n) dd_TC_init_132 cs_TC_51 ci_TC_51 rfl (Nat.le_of_ble_eq_true rfl) ⟨(Nat.le_of_ble_eq_true rfl), (Nat.le_of_ble_eq_true rfl)⟩ ⟨by omega, by omega⟩ rfl (ct_Tr_init ti_nq (fun q2 nq2 => ?_))
      have k4 := ti_k hT (n := 4) (by unfold dm_; omega) (t := .inr (5, 4)) rfl
      refine jj_aast (ci := 6) dd_TC_init_135 (ti_nk (ti_nk k4 nq) nq2) (Or.inr (Or.inr rfl)) (by decide) rfl (ti_nk ti_nq nq2) (vp_in_nI (by omega) (by decide)) ?_
      rw [nI_clamp (by omega)]
      obtain ⟨g2, _, hT2⟩ := ti_x (by omega) rfl hT nq nq2
      refine jj_iinc 0 (lv' := [(2, .int (nI (k + 1))), (0, .ref a), (1, .int x)]) dd_TC_init_136 rfl (nI_1 k) (Nat.le_of_ble_eq_true rfl) rfl ?_
      refine jj_goto (tgt := 117) dd_TC_init_139 (by decide) ?_
      exact ih (k + 1) g2 _ (by omega) hT2
  have loopC : ∀ (n k : Nat) (g : Nat → Nat) (M : mm_M), k + n = 12 → ti_ a (lfC_ x) 3 3 k 0 g M → jj_ l yy_TC_init bb_TC_init 3 none G (mm_R 2 27 179) A (mm_ret Q) (9 + n) (96 + 4 * n) 74 [(2, .int (nI k)), (0, .ref a), (1, .int x)] [] M := by
    intro n
    induction n with
    | zero =>
      intro k g M hk hT
      have hk : k = 12 := by omega
      subst hk
      refine jj_iload_n 0 dd_TC_init_74 rfl ?_
      refine jj_bipush (v := 12) dd_TC_init_75 rfl ?_
      refine jj_icmp_ge (tgt := 107) dd_TC_init_77 (by decide) (fun h => ?_) (fun h => absurd (mm_rfl _) h)
      refine jj_aload_n 1 dd_TC_init_107 rfl ?_
      refine jj_iconst (v := 4) dd_TC_init_108 rfl ?_
      refine jj_anew (ai := 5) (N := 4) (C := nn_C 6) 8 92 dd_TC_init_109 (Or.inr (Or.inr rfl)) rfl cl_TC_45 (by decide) rfl (by decide) (by omega) (by omega) (fun q nq => ?_)
      refine jj_putr (some q) dd_TC_init_112 (Or.inr ⟨fg_TC_47, rfl⟩) (ti_nk (ti_0 hT) nq) (fun _ => rfl) (mm_nr rfl) ?_
      obtain ⟨g2, _, _, hT2⟩ := ti_xa (kk := 0) hT nq
      refine jj_iconst (v := 0) dd_TC_init_115 rfl ?_
      refine jj_istore_n (lv' := [(2, .int (nI 0)), (0, .ref a), (1, .int x)]) dd_TC_init_116 (Nat.le_of_ble_eq_true rfl) rfl ?_
      exact loopX 4 0 g2 _ (by omega) hT2
    | succ n ih =>
      intro k g M hk hT
      refine jj_iload_n 0 dd_TC_init_74 rfl ?_
      refine jj_bipush (v := 12) dd_TC_init_75 rfl ?_
      refine jj_icmp_ge (tgt := 107) dd_TC_init_77 (by decide) (fun h => absurd h (nI_ge (b := 12) (by omega) (by decide))) (fun h => ?_)
      refine jj_aload_n 1 dd_TC_init_80 rfl ?_
      refine jj_getr dd_TC_init_81 ff_TC_38 (ti_0 hT) (fun _ => rfl) (some (g 3)) (ti_r3 hT (by omega)) ?_
      refine jj_iload_n 0 dd_TC_init_84 rfl ?_
      refine jj_new (ci := 3) (9 + n) (96 + 4 * n) dd_TC_init_85 (by decide) cl_TC_36 cn_3 ck_3 (by omega) (by have : nn_N 3 = 4 := rfl; omega) (fun q nq => ?_)
      refine jj_dup dd_TC_init_88 rfl ?_
      refine jj_aload_n 1 dd_TC_init_89 rfl ?_
      have k2 := ti_k hT (n := 2) (by unfold dm_; omega) (t := .inr (3, 3)) rfl
      have k3 := ti_k hT (n := 3) (by unfold dm_; omega) (t := .inr (4, 12)) rfl
      have n2 : g 2 ≠ q := fun e => by rw [e, nq] at k2; cases k2
      have n0 : a ≠ q := fun e => by have := ti_0 hT; rw [e, nq] at this; cases this
      refine jj_getr dd_TC_init_90 ff_TC_31 (ti_nk (ti_0 hT) nq) (fun _ => rfl) (some (g 2)) (by rw [mm_r_nw, if_neg n0]; exact ti_r2 hT (by omega)) ?_
      refine jj_iload_n 0 dd_TC_init_93 rfl ?_
      refine jj_iconst (v := 4) dd_TC_init_94 rfl ?_
      refine jj_idiv dd_TC_init_95 (by decide) ?_
      refine jj_ti (x' := nI (k / 4)) (pk_div (a := k) (d := 4) (by omega) (by decide) (by decide)) ?_
      refine jj_aald dd_TC_init_96 (ti_nk k2 nq) (Or.inl rfl) (vp_in_nI (by omega) (by decide)) (some (g (10 + k / 4))) (by rw [nI_clamp (by omega), mm_r_nw, if_neg n2]; exact ti_rt hT (by omega) (by omega)) ?_
      refine jj_callI [_] [.ref q, .int (nI k), .ref (g 3)] (9 + n) (96 + 4 * n) dd_TC_init_97 cs_TC_42 ci_TC_42 rfl (Nat.le_of_ble_eq_true rfl) ⟨(Nat.le_of_ble_eq_true rfl), (Nat.le_of_ble_eq_true rfl)⟩ ⟨by omega, by omega⟩ rfl (ct_Ce_init ti_nq ?_)
      refine jj_aast (ci := 3) dd_TC_init_100 (ti_nk k3 nq) (Or.inr (Or.inl rfl)) (by decide) rfl ti_nq (vp_in_nI (by omega) (by decide)) ?_
      rw [nI_clamp (by omega)]
      obtain ⟨g2, _, _, hT2⟩ := ti_c (by omega) rfl rfl hT nq
      refine jj_iinc 0 (lv' := [(2, .int (nI (k + 1))), (0, .ref a), (1, .int x)]) dd_TC_init_101 rfl (nI_1 k) (Nat.le_of_ble_eq_true rfl) rfl ?_
      refine jj_goto (tgt := 74) dd_TC_init_104 (by decide) ?_
      exact ih (k + 1) g2 _ (by omega) hT2
  have loopT : ∀ (n k : Nat) (g : Nat → Nat) (M : mm_M), k + n = 3 → ti_ a (lfC_ x) 2 k 0 0 g M → jj_ l yy_TC_init bb_TC_init 3 none G (mm_R 2 27 179) A (mm_ret Q) (22 + n) (156 + 6 * n) 39 [(2, .int (nI k)), (0, .ref a), (1, .int x)] [] M := by
    intro n
    induction n with
    | zero =>
      intro k g M hk hT
      have hk : k = 3 := by omega
      subst hk
      refine jj_iload_n 0 dd_TC_init_39 rfl ?_
      refine jj_iconst (v := 3) dd_TC_init_40 rfl ?_
      refine jj_icmp_ge (tgt := 63) dd_TC_init_41 (by decide) (fun h => ?_) (fun h => absurd (mm_rfl _) h)
      refine jj_aload_n 1 dd_TC_init_63 rfl ?_
      refine jj_bipush (v := 12) dd_TC_init_64 rfl ?_
      refine jj_anew (ai := 4) (N := 12) (C := nn_C 3) 21 144 dd_TC_init_66 (Or.inr (Or.inl rfl)) rfl cl_TC_36 (by decide) rfl (by decide) (by omega) (by omega) (fun q nq => ?_)
      refine jj_putr (some q) dd_TC_init_69 (Or.inr ⟨fg_TC_38, rfl⟩) (ti_nk (ti_0 hT) nq) (fun _ => rfl) (mm_nr rfl) ?_
      obtain ⟨g2, _, _, hT2⟩ := ti_ca (kk := 0) hT nq
      refine jj_iconst (v := 0) dd_TC_init_72 rfl ?_
      refine jj_istore_n (lv' := [(2, .int (nI 0)), (0, .ref a), (1, .int x)]) dd_TC_init_73 (Nat.le_of_ble_eq_true rfl) rfl ?_
      exact loopC 12 0 g2 _ (by omega) hT2
    | succ n ih =>
      intro k g M hk hT
      refine jj_iload_n 0 dd_TC_init_39 rfl ?_
      refine jj_iconst (v := 3) dd_TC_init_40 rfl ?_
      refine jj_icmp_ge (tgt := 63) dd_TC_init_41 (by decide) (fun h => absurd h (nI_ge (b := 3) (by omega) (by decide))) (fun h => ?_)
      refine jj_aload_n 1 dd_TC_init_44 rfl ?_
      refine jj_getr dd_TC_init_45 ff_TC_31 (ti_0 hT) (fun _ => rfl) (some (g 2)) (ti_r2 hT (by omega)) ?_
      refine jj_iload_n 0 dd_TC_init_48 rfl ?_
      refine jj_new (ci := 2) (22 + n) (156 + 6 * n) dd_TC_init_49 (by decide) cl_TC_29 cn_2 ck_2 (by omega) (by have : nn_N 2 = 6 := rfl; omega) (fun q nq => ?_)
      refine jj_dup dd_TC_init_52 rfl ?_
      have k2 := ti_k hT (n := 2) (by unfold dm_; omega) (t := .inr (3, 3)) rfl
      refine jj_callI [] [.ref q, .int (nI k), .ref (g 2)] (22 + n) (156 + 6 * n) dd_TC_init_53 cs_TC_35 ci_TC_35 rfl (Nat.le_of_ble_eq_true rfl) ⟨(Nat.le_of_ble_eq_true rfl), (Nat.le_of_ble_eq_true rfl)⟩ ⟨by omega, by omega⟩ rfl (ct_Ta_init ti_nq ?_)
      refine jj_aast (ci := 2) dd_TC_init_56 (ti_nk k2 nq) (Or.inl rfl) (by decide) rfl ti_nq (vp_in_nI (by omega) (by decide)) ?_
      rw [nI_clamp (by omega)]
      obtain ⟨g2, _, _, hT2⟩ := ti_t (by omega) rfl hT nq
      refine jj_iinc 0 (lv' := [(2, .int (nI (k + 1))), (0, .ref a), (1, .int x)]) dd_TC_init_57 rfl (nI_1 k) (Nat.le_of_ble_eq_true rfl) rfl ?_
      refine jj_goto (tgt := 39) dd_TC_init_60 (by decide) ?_
      exact ih (k + 1) g2 _ (by omega) hT2
  have k0 : mm_k M a = some (.inl 0) := by
    obtain ⟨t, h1, h2⟩ := hC.1 0 ((hD 0).mpr rfl)
    rw [ha] at h2
    have : oo_k 0 = some (.inl 0) := rfl
    rw [this] at h1
    rw [h2, ← Option.some.inj h1]
  refine jj_aload_n 0 dd_TC_init_0 rfl ?_
  refine jj_objI dd_TC_init_1 oi_TC_1 (Nat.le_of_ble_eq_true rfl) (Nat.le_of_ble_eq_true rfl) ?_
  refine jj_aload_n 0 dd_TC_init_4 rfl ?_
  refine jj_iconst (v := 1) dd_TC_init_5 rfl ?_
  refine jj_bipush (v := 20) dd_TC_init_6 rfl ?_
  refine jj_iload_n 1 dd_TC_init_8 rfl ?_
  refine jj_mmin dd_TC_init_9 om_TC_9 (Nat.le_of_ble_eq_true rfl) (Nat.le_of_ble_eq_true rfl) ?_
  refine jj_mmax dd_TC_init_12 om_TC_15 (Nat.le_of_ble_eq_true rfl) (Nat.le_of_ble_eq_true rfl) ?_
  refine jj_puti dd_TC_init_15 (Or.inr ⟨fg_TC_18, rfl⟩) k0 (fun _ => rfl) ⟨rfl, rfl⟩ ?_
  have hT : ti_ a (lfC_ x) 0 0 0 0 g (mm_si M a 0 (lfC_ x)) := ti_start hC hD ha hF
  show jj_ _ _ _ _ _ _ _ _ _ _ _ _ _ _ (mm_si M a 0 (lfC_ x))
  generalize mm_si M a 0 (lfC_ x) = M at hT ⊢
  refine jj_aload_n 0 dd_TC_init_18 rfl ?_
  refine jj_new (ci := 1) 26 177 dd_TC_init_19 (by decide) cl_TC_22 cn_1 ck_1 (Nat.le_of_ble_eq_true rfl) (Nat.le_of_ble_eq_true rfl) (fun q nq => ?_)
  refine jj_dup dd_TC_init_22 rfl ?_
  refine jj_callI [] [.ref q, .ref a] 26 177 dd_TC_init_23 cs_TC_24 ci_TC_24 rfl (Nat.le_of_ble_eq_true rfl) ⟨(Nat.le_of_ble_eq_true rfl), (Nat.le_of_ble_eq_true rfl)⟩ ⟨(Nat.le_of_ble_eq_true rfl), (Nat.le_of_ble_eq_true rfl)⟩ rfl (ct_Or_init ti_nq ?_)
  refine jj_putr (some q) dd_TC_init_26 (Or.inr ⟨fg_TC_25, rfl⟩) (ti_nk (ti_0 hT) nq) (fun _ => rfl) (mm_nr rfl) ?_
  obtain ⟨g1, _, _, hT1⟩ := ti_or (kk := 0) hT nq
  refine jj_aload_n 0 dd_TC_init_29 rfl ?_
  refine jj_iconst (v := 3) dd_TC_init_30 rfl ?_
  refine jj_anew (ai := 3) (N := 3) (C := nn_C 2) 25 174 dd_TC_init_31 (Or.inl rfl) rfl cl_TC_29 (by decide) rfl (by decide) (Nat.le_of_ble_eq_true rfl) (Nat.le_of_ble_eq_true rfl) (fun q2 nq2 => ?_)
  refine jj_putr (some q2) dd_TC_init_34 (Or.inr ⟨fg_TC_31, rfl⟩) (ti_nk (ti_0 hT1) nq2) (fun _ => rfl) (mm_nr rfl) ?_
  obtain ⟨g2, _, _, hT2⟩ := ti_ta (kk := 0) hT1 nq2
  refine jj_iconst (v := 0) dd_TC_init_37 rfl ?_
  refine jj_istore_n (lv' := [(2, .int (nI 0)), (0, .ref a), (1, .int x)]) dd_TC_init_38 (Nat.le_of_ble_eq_true rfl) rfl ?_
  exact loopT 3 0 g2 _ (by omega) hT2
