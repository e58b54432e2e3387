def mi_ (g0 : Nat → Nat) (D0 : Nat → Bool) (F1 : Nat → Nat → Int32) (O0 : Nat → Nat → Option Nat) (k : Nat) (g : Nat → Nat) (M : mm_M) : Prop :=
  ∃ D F O, cn_ g M D F O ∧ (∀ m, m ≤ 60 → g m = g0 m) ∧ (∀ n, D n = true ↔ (D0 n = true ∨ ∃ i, oo_m i = true ∧ i < k ∧ n = 60 + i)) ∧ (∀ n j, n ≤ 60 → F n j = F1 n j) ∧ (∀ n j, n < 60 → O n j = O0 n j) ∧ (∀ i, oo_m i = true → i < k → O 60 i = some (60 + i) ∧ ∀ j, F (60 + i) j = 0)
theorem mi_skip {g0 : Nat → Nat} {D0 : Nat → Bool} {F1 : Nat → Nat → Int32} {O0 : Nat → Nat → Option Nat} {k : Nat} {g : Nat → Nat} {M : mm_M} (hk : oo_m k = false) (h : mi_ g0 D0 F1 O0 k g M) : mi_ g0 D0 F1 O0 (k + 1) g M := by
  obtain ⟨D, F, O, h1, h2, h3, h4, h5, h6⟩ := h
  have hne : ∀ i, oo_m i = true → i < k + 1 → i < k := fun i hi h => by
    have : i ≠ k := fun e => by rw [e, hk] at hi; cases hi
    omega
  refine ⟨D, F, O, h1, h2, fun n => ?_, h4, h5, fun i hi h => h6 i hi (hne i hi h)⟩
  rw [h3 n]
  constructor
  · rintro (h | ⟨i, a, b, c⟩)
    · exact Or.inl h
    · exact Or.inr ⟨i, a, by omega, c⟩
  · rintro (h | ⟨i, a, b, c⟩)
    · exact Or.inl h
    · exact Or.inr ⟨i, a, hne i a b, c⟩
theorem jj_mstep {l : Launch} {y : MethodName} {cc : ByteArray} {nL : Nat} {ret : Option FieldType} {G : mm_G} {R : Room} {A : Nat → Prop} {Q : mm_O → mm_M → Prop} {mc ms pc : Nat} {lv : List (Nat × Value)} {st : List Value} {M : mm_M} {g0 : Nat → Nat} {D0 : Nat → Bool} {F1 : Nat → Nat → Int32} {O0 : Nat → Nat → Option Nat} {k : Nat} {g : Nat → Nat}
    {atype : ArrayType} {ai N idx a : Nat} {n : Int32} (mc' ms' : Nat) (hM : mi_ g0 D0 F1 O0 k g M) (hk : oo_m k = true) (hok : oo_k (60 + k) = some (.inr (ai, N))) (ha : g0 60 = a) (h60 : D0 60 = true) (hD : ∀ i, oo_m i = true → D0 (60 + i) = false)
    (hd : decode cc pc = .ok (.newarray atype, 2)) (h0 : ai = 0 ∨ ai = 1 ∨ ai = 2) (hty : newarray.typeOf atype = mm_ty ai) (hw : Cond.arrayClass (newarray.typeOf atype) ∈ nn_TS)
    (hn : ¬ n < 0) (hN : n.toNatClampNeg = N) (hbytes : N * componentBytes (newarray.typeOf atype) ≤ 536870912) (h1 : mc' + 1 ≤ mc) (h2 : ms' + N ≤ ms)
    (hd2 : decode cc (pc + 2) = .ok (.putfield idx, 3)) (hf : mm_Ff y.cls idx 7 k ∧ y.name = "<init>") (hv : ∀ M' : mm_M, mm_fv M' a (nn_t 7 k) k = va_rf (mm_r M' a k)) (hrf : nn_rf (nn_t 7 k) = true)
    (kk : ∀ g' M', mi_ g0 D0 F1 O0 (k + 1) g' M' → jj_ l y cc nL ret G R A Q mc' ms' (pc + 2 + 3) lv st M') : jj_ l y cc nL ret G R A Q mc ms pc lv (.int n :: .ref a :: st) M := by
  subst ha
  obtain ⟨D, F, O, c1, c2, c3, c4, c5, c6⟩ := hM
  have hD60 : D 60 = true := (c3 60).mpr (Or.inl h60)
  have hDk : D (60 + k) = false := by
    cases hh : D (60 + k) with
    | false => rfl
    | true =>
      rcases (c3 (60 + k)).mp hh with h | ⟨i, _, b, c⟩
      · rw [hD k hk] at h; cases h
      · omega
  have hk5 : 5 ≤ k := by
    cases k with
    | zero => cases hk
    | succ k => cases k with
      | zero => cases hk
      | succ k => cases k with
        | zero => cases hk
        | succ k => cases k with
          | zero => cases hk
          | succ k => cases k with
            | zero => cases hk
            | succ k => omega
  refine jj_newa mc' ms' hd h0 hty hw hn hN hbytes h1 h2 (fun q nq => ?_)
  have hg60 : g 60 = g0 60 := c2 60 (Nat.le_refl _)
  obtain ⟨t, ht, hka⟩ := c1.1 60 hD60
  rw [hg60] at hka
  have ht7 : t = .inl 7 := by
    have : oo_k 60 = some (.inl 7) := rfl
    rw [this] at ht
    exact (Option.some.inj ht).symm
  subst ht7
  have hne : g0 60 ≠ q := fun e => by rw [e, nq] at hka; cases hka
  obtain ⟨g', e1, e2, e3⟩ := cn_nw (60 + k) c1 nq hok hDk
  refine jj_putr (some q) hd2 (Or.inr hf) (by rw [mm_k_nw, if_neg hne]; exact hka) hv (mm_nr hrf) ?_
  have hg' : g' 60 = g0 60 := (e1 60 (by omega)).trans hg60
  have c := cn_sr (j := k) 60 (60 + k) e3 hg' e2 (by rw [up_at, if_neg (by omega)]; exact hD60) (by rw [up_at, if_pos rfl])
  refine kk g' _ ⟨_, _, _, c, fun m hm => (e1 m (by omega)).trans (c2 m hm), fun n' => ?_, fun n' j hn' => ?_, fun n' j hn' => ?_, fun i hi hik => ?_⟩
  · rw [up_at]
    by_cases e : n' = 60 + k
    · rw [if_pos e]
      exact ⟨fun _ => Or.inr ⟨k, hk, by omega, e⟩, fun _ => rfl⟩
    · rw [if_neg e, c3 n']
      constructor
      · rintro (h | ⟨i, a, b, c⟩)
        · exact Or.inl h
        · exact Or.inr ⟨i, a, by omega, c⟩
      · rintro (h | ⟨i, a, b, c⟩)
        · exact Or.inl h
        · exact Or.inr ⟨i, a, by omega, c⟩
  · rw [zf_at, if_neg (by omega)]
    exact c4 n' j hn'
  · rw [ur_at, if_neg (fun z => by omega), zo_at, if_neg (by omega)]
    exact c5 n' j hn'
  · by_cases e : i = k
    · subst e
      exact ⟨by rw [ur_at, if_pos ⟨rfl, rfl⟩], fun j => by rw [zf_at, if_pos rfl]⟩
    · have h6 := c6 i hi (by omega)
      exact ⟨by rw [ur_at, if_neg (fun z => e z.2), zo_at, if_neg (by omega)]; exact h6.1, fun j => by rw [zf_at, if_neg (by omega)]; exact h6.2 j⟩
def lfM_ (x : Int32) : Int32 := if 1 ≤ x then (if x ≤ 20 then x else 20) else 1
set_option maxRecDepth 20000 in
theorem ct_Mo_init {l : Launch} {M : mm_M} {Q : Option Value → mm_M → Prop} {g : Nat → Nat} {D : Nat → Bool} {F : Nat → Nat → Int32} {O : Nat → Nat → Option Nat} {a : Nat} {x : Int32} (hC : cn_ g M D F O) (ha : g 60 = a) (h60 : D 60 = true) (hD : ∀ i, oo_m i = true → D (60 + i) = false) (hQ : ∀ g' M', mi_ g D (uf_ F 60 3 1) O 31 g' M' → Q none (mm_si M' a 0 (lfM_ x))) : ct_ l yy_Mo_init bb_Mo_init 2 none 1 25 7998 [.ref a, .int x] M Q := by
  refine ct_of (by decide) (Nat.le_of_ble_eq_true rfl) (fun G A => ?_)
  have ka : mm_k M a = some (.inl 7) := by
    obtain ⟨t, ht, hk⟩ := hC.1 60 h60
    rw [ha] at hk
    rw [hk, ← ht]
    rfl
  refine jj_aload_n 0 dd_Mo_init_0 rfl ?_
  refine jj_objI dd_Mo_init_1 oi_Mo_1 (Nat.le_of_ble_eq_true rfl) (Nat.le_of_ble_eq_true rfl) ?_
  refine jj_aload_n 0 dd_Mo_init_4 rfl ?_
  refine jj_iconst (v := 1) dd_Mo_init_5 rfl ?_
  refine jj_puti dd_Mo_init_6 (Or.inl ⟨ff_Mo_7, rfl⟩) ka (fun _ => rfl) ⟨rfl, rfl⟩ ?_
  have hm : mi_ g D (uf_ F 60 3 1) O 5 g (mm_si M a 3 1) := ⟨D, _, O, cn_si 60 hC ha h60, fun _ _ => rfl, fun n => ⟨fun h => Or.inl h, fun h => h.elim id (fun ⟨i, h1, h2, _⟩ => absurd h1 (by match i, h2 with | 0, _ => decide | 1, _ => decide | 2, _ => decide | 3, _ => decide | 4, _ => decide))⟩, fun _ _ _ => rfl, fun _ _ _ => rfl, fun i h1 h2 => absurd h1 (by match i, h2 with | 0, _ => decide | 1, _ => decide | 2, _ => decide | 3, _ => decide | 4, _ => decide)⟩
  refine jj_aload_n 0 dd_Mo_init_9 rfl ?_
  refine jj_bipush (v := 12) dd_Mo_init_10 rfl ?_
  refine jj_mstep (k := 5) (ai := 0) (N := 12) 24 7986 hm rfl rfl ha h60 hD dd_Mo_init_12 (Or.inl rfl) rfl ca_int (by decide) rfl (Nat.le_of_ble_eq_true rfl) (Nat.le_of_ble_eq_true rfl) (Nat.le_of_ble_eq_true rfl) dd_Mo_init_14 ⟨fg_Mo_13, rfl⟩ (fun _ => rfl) rfl (fun g M hm => ?_)
  refine jj_aload_n 0 dd_Mo_init_17 rfl ?_
  refine jj_bipush (v := 12) dd_Mo_init_18 rfl ?_
  refine jj_mstep (k := 6) (ai := 0) (N := 12) 23 7974 hm rfl rfl ha h60 hD dd_Mo_init_20 (Or.inl rfl) rfl ca_int (by decide) rfl (Nat.le_of_ble_eq_true rfl) (Nat.le_of_ble_eq_true rfl) (Nat.le_of_ble_eq_true rfl) dd_Mo_init_22 ⟨fg_Mo_17, rfl⟩ (fun _ => rfl) rfl (fun g M hm => ?_)
  refine jj_aload_n 0 dd_Mo_init_25 rfl ?_
  refine jj_bipush (v := 12) dd_Mo_init_26 rfl ?_
  refine jj_mstep (k := 7) (ai := 0) (N := 12) 22 7962 hm rfl rfl ha h60 hD dd_Mo_init_28 (Or.inl rfl) rfl ca_int (by decide) rfl (Nat.le_of_ble_eq_true rfl) (Nat.le_of_ble_eq_true rfl) (Nat.le_of_ble_eq_true rfl) dd_Mo_init_30 ⟨fg_Mo_20, rfl⟩ (fun _ => rfl) rfl (fun g M hm => ?_)
  refine jj_aload_n 0 dd_Mo_init_33 rfl ?_
  refine jj_bipush (v := 12) dd_Mo_init_34 rfl ?_
  refine jj_mstep (k := 8) (ai := 0) (N := 12) 21 7950 hm rfl rfl ha h60 hD dd_Mo_init_36 (Or.inl rfl) rfl ca_int (by decide) rfl (Nat.le_of_ble_eq_true rfl) (Nat.le_of_ble_eq_true rfl) (Nat.le_of_ble_eq_true rfl) dd_Mo_init_38 ⟨fg_Mo_23, rfl⟩ (fun _ => rfl) rfl (fun g M hm => ?_)
  refine jj_aload_n 0 dd_Mo_init_41 rfl ?_
  refine jj_bipush (v := 12) dd_Mo_init_42 rfl ?_
  refine jj_mstep (k := 9) (ai := 0) (N := 12) 20 7938 hm rfl rfl ha h60 hD dd_Mo_init_44 (Or.inl rfl) rfl ca_int (by decide) rfl (Nat.le_of_ble_eq_true rfl) (Nat.le_of_ble_eq_true rfl) (Nat.le_of_ble_eq_true rfl) dd_Mo_init_46 ⟨fg_Mo_26, rfl⟩ (fun _ => rfl) rfl (fun g M hm => ?_)
  refine jj_aload_n 0 dd_Mo_init_49 rfl ?_
  refine jj_bipush (v := 12) dd_Mo_init_50 rfl ?_
  refine jj_mstep (k := 10) (ai := 0) (N := 12) 19 7926 hm rfl rfl ha h60 hD dd_Mo_init_52 (Or.inl rfl) rfl ca_int (by decide) rfl (Nat.le_of_ble_eq_true rfl) (Nat.le_of_ble_eq_true rfl) (Nat.le_of_ble_eq_true rfl) dd_Mo_init_54 ⟨fg_Mo_29, rfl⟩ (fun _ => rfl) rfl (fun g M hm => ?_)
  have hm := mi_skip (k := 11) rfl hm
  refine jj_aload_n 0 dd_Mo_init_57 rfl ?_
  refine jj_sipush (v := 1540) dd_Mo_init_58 rfl ?_
  refine jj_mstep (k := 12) (ai := 0) (N := 1540) 18 6386 hm rfl rfl ha h60 hD dd_Mo_init_61 (Or.inl rfl) rfl ca_int (by decide) rfl (Nat.le_of_ble_eq_true rfl) (Nat.le_of_ble_eq_true rfl) (Nat.le_of_ble_eq_true rfl) dd_Mo_init_63 ⟨fg_Mo_32, rfl⟩ (fun _ => rfl) rfl (fun g M hm => ?_)
  refine jj_aload_n 0 dd_Mo_init_66 rfl ?_
  refine jj_sipush (v := 1540) dd_Mo_init_67 rfl ?_
  refine jj_mstep (k := 13) (ai := 0) (N := 1540) 17 4846 hm rfl rfl ha h60 hD dd_Mo_init_70 (Or.inl rfl) rfl ca_int (by decide) rfl (Nat.le_of_ble_eq_true rfl) (Nat.le_of_ble_eq_true rfl) (Nat.le_of_ble_eq_true rfl) dd_Mo_init_72 ⟨fg_Mo_35, rfl⟩ (fun _ => rfl) rfl (fun g M hm => ?_)
  refine jj_aload_n 0 dd_Mo_init_75 rfl ?_
  refine jj_sipush (v := 1540) dd_Mo_init_76 rfl ?_
  refine jj_mstep (k := 14) (ai := 0) (N := 1540) 16 3306 hm rfl rfl ha h60 hD dd_Mo_init_79 (Or.inl rfl) rfl ca_int (by decide) rfl (Nat.le_of_ble_eq_true rfl) (Nat.le_of_ble_eq_true rfl) (Nat.le_of_ble_eq_true rfl) dd_Mo_init_81 ⟨fg_Mo_38, rfl⟩ (fun _ => rfl) rfl (fun g M hm => ?_)
  refine jj_aload_n 0 dd_Mo_init_84 rfl ?_
  refine jj_sipush (v := 1540) dd_Mo_init_85 rfl ?_
  refine jj_mstep (k := 15) (ai := 0) (N := 1540) 15 1766 hm rfl rfl ha h60 hD dd_Mo_init_88 (Or.inl rfl) rfl ca_int (by decide) rfl (Nat.le_of_ble_eq_true rfl) (Nat.le_of_ble_eq_true rfl) (Nat.le_of_ble_eq_true rfl) dd_Mo_init_90 ⟨fg_Mo_41, rfl⟩ (fun _ => rfl) rfl (fun g M hm => ?_)
  refine jj_aload_n 0 dd_Mo_init_93 rfl ?_
  refine jj_sipush (v := 1540) dd_Mo_init_94 rfl ?_
  refine jj_mstep (k := 16) (ai := 0) (N := 1540) 14 226 hm rfl rfl ha h60 hD dd_Mo_init_97 (Or.inl rfl) rfl ca_int (by decide) rfl (Nat.le_of_ble_eq_true rfl) (Nat.le_of_ble_eq_true rfl) (Nat.le_of_ble_eq_true rfl) dd_Mo_init_99 ⟨fg_Mo_44, rfl⟩ (fun _ => rfl) rfl (fun g M hm => ?_)
  refine jj_aload_n 0 dd_Mo_init_102 rfl ?_
  refine jj_iconst (v := 3) dd_Mo_init_103 rfl ?_
  refine jj_mstep (k := 17) (ai := 1) (N := 3) 13 223 hm rfl rfl ha h60 hD dd_Mo_init_104 (Or.inr (Or.inl rfl)) rfl ca_boolean (by decide) rfl (Nat.le_of_ble_eq_true rfl) (Nat.le_of_ble_eq_true rfl) (Nat.le_of_ble_eq_true rfl) dd_Mo_init_106 ⟨fg_Mo_47, rfl⟩ (fun _ => rfl) rfl (fun g M hm => ?_)
  refine jj_aload_n 0 dd_Mo_init_109 rfl ?_
  refine jj_iconst (v := 3) dd_Mo_init_110 rfl ?_
  refine jj_mstep (k := 18) (ai := 0) (N := 3) 12 220 hm rfl rfl ha h60 hD dd_Mo_init_111 (Or.inl rfl) rfl ca_int (by decide) rfl (Nat.le_of_ble_eq_true rfl) (Nat.le_of_ble_eq_true rfl) (Nat.le_of_ble_eq_true rfl) dd_Mo_init_113 ⟨fg_Mo_51, rfl⟩ (fun _ => rfl) rfl (fun g M hm => ?_)
  refine jj_aload_n 0 dd_Mo_init_116 rfl ?_
  refine jj_iconst (v := 3) dd_Mo_init_117 rfl ?_
  refine jj_mstep (k := 19) (ai := 0) (N := 3) 11 217 hm rfl rfl ha h60 hD dd_Mo_init_118 (Or.inl rfl) rfl ca_int (by decide) rfl (Nat.le_of_ble_eq_true rfl) (Nat.le_of_ble_eq_true rfl) (Nat.le_of_ble_eq_true rfl) dd_Mo_init_120 ⟨fg_Mo_54, rfl⟩ (fun _ => rfl) rfl (fun g M hm => ?_)
  refine jj_aload_n 0 dd_Mo_init_123 rfl ?_
  refine jj_iconst (v := 3) dd_Mo_init_124 rfl ?_
  refine jj_mstep (k := 20) (ai := 0) (N := 3) 10 214 hm rfl rfl ha h60 hD dd_Mo_init_125 (Or.inl rfl) rfl ca_int (by decide) rfl (Nat.le_of_ble_eq_true rfl) (Nat.le_of_ble_eq_true rfl) (Nat.le_of_ble_eq_true rfl) dd_Mo_init_127 ⟨fg_Mo_57, rfl⟩ (fun _ => rfl) rfl (fun g M hm => ?_)
  refine jj_aload_n 0 dd_Mo_init_130 rfl ?_
  refine jj_iconst (v := 3) dd_Mo_init_131 rfl ?_
  refine jj_mstep (k := 21) (ai := 0) (N := 3) 9 211 hm rfl rfl ha h60 hD dd_Mo_init_132 (Or.inl rfl) rfl ca_int (by decide) rfl (Nat.le_of_ble_eq_true rfl) (Nat.le_of_ble_eq_true rfl) (Nat.le_of_ble_eq_true rfl) dd_Mo_init_134 ⟨fg_Mo_60, rfl⟩ (fun _ => rfl) rfl (fun g M hm => ?_)
  refine jj_aload_n 0 dd_Mo_init_137 rfl ?_
  refine jj_iconst (v := 3) dd_Mo_init_138 rfl ?_
  refine jj_mstep (k := 22) (ai := 1) (N := 3) 8 208 hm rfl rfl ha h60 hD dd_Mo_init_139 (Or.inr (Or.inl rfl)) rfl ca_boolean (by decide) rfl (Nat.le_of_ble_eq_true rfl) (Nat.le_of_ble_eq_true rfl) (Nat.le_of_ble_eq_true rfl) dd_Mo_init_141 ⟨fg_Mo_63, rfl⟩ (fun _ => rfl) rfl (fun g M hm => ?_)
  refine jj_aload_n 0 dd_Mo_init_144 rfl ?_
  refine jj_iconst (v := 4) dd_Mo_init_145 rfl ?_
  refine jj_mstep (k := 23) (ai := 0) (N := 4) 7 204 hm rfl rfl ha h60 hD dd_Mo_init_146 (Or.inl rfl) rfl ca_int (by decide) rfl (Nat.le_of_ble_eq_true rfl) (Nat.le_of_ble_eq_true rfl) (Nat.le_of_ble_eq_true rfl) dd_Mo_init_148 ⟨fg_Mo_66, rfl⟩ (fun _ => rfl) rfl (fun g M hm => ?_)
  refine jj_aload_n 0 dd_Mo_init_151 rfl ?_
  refine jj_iconst (v := 4) dd_Mo_init_152 rfl ?_
  refine jj_mstep (k := 24) (ai := 0) (N := 4) 6 200 hm rfl rfl ha h60 hD dd_Mo_init_153 (Or.inl rfl) rfl ca_int (by decide) rfl (Nat.le_of_ble_eq_true rfl) (Nat.le_of_ble_eq_true rfl) (Nat.le_of_ble_eq_true rfl) dd_Mo_init_155 ⟨fg_Mo_69, rfl⟩ (fun _ => rfl) rfl (fun g M hm => ?_)
  refine jj_aload_n 0 dd_Mo_init_158 rfl ?_
  refine jj_iconst (v := 4) dd_Mo_init_159 rfl ?_
  refine jj_mstep (k := 25) (ai := 0) (N := 4) 5 196 hm rfl rfl ha h60 hD dd_Mo_init_160 (Or.inl rfl) rfl ca_int (by decide) rfl (Nat.le_of_ble_eq_true rfl) (Nat.le_of_ble_eq_true rfl) (Nat.le_of_ble_eq_true rfl) dd_Mo_init_162 ⟨fg_Mo_72, rfl⟩ (fun _ => rfl) rfl (fun g M hm => ?_)
  refine jj_aload_n 0 dd_Mo_init_165 rfl ?_
  refine jj_iconst (v := 4) dd_Mo_init_166 rfl ?_
  refine jj_mstep (k := 26) (ai := 1) (N := 4) 4 192 hm rfl rfl ha h60 hD dd_Mo_init_167 (Or.inr (Or.inl rfl)) rfl ca_boolean (by decide) rfl (Nat.le_of_ble_eq_true rfl) (Nat.le_of_ble_eq_true rfl) (Nat.le_of_ble_eq_true rfl) dd_Mo_init_169 ⟨fg_Mo_75, rfl⟩ (fun _ => rfl) rfl (fun g M hm => ?_)
  refine jj_aload_n 0 dd_Mo_init_172 rfl ?_
  refine jj_bipush (v := 48) dd_Mo_init_173 rfl ?_
  refine jj_mstep (k := 27) (ai := 0) (N := 48) 3 144 hm rfl rfl ha h60 hD dd_Mo_init_175 (Or.inl rfl) rfl ca_int (by decide) rfl (Nat.le_of_ble_eq_true rfl) (Nat.le_of_ble_eq_true rfl) (Nat.le_of_ble_eq_true rfl) dd_Mo_init_177 ⟨fg_Mo_78, rfl⟩ (fun _ => rfl) rfl (fun g M hm => ?_)
  refine jj_aload_n 0 dd_Mo_init_180 rfl ?_
  refine jj_bipush (v := 48) dd_Mo_init_181 rfl ?_
  refine jj_mstep (k := 28) (ai := 0) (N := 48) 2 96 hm rfl rfl ha h60 hD dd_Mo_init_183 (Or.inl rfl) rfl ca_int (by decide) rfl (Nat.le_of_ble_eq_true rfl) (Nat.le_of_ble_eq_true rfl) (Nat.le_of_ble_eq_true rfl) dd_Mo_init_185 ⟨fg_Mo_81, rfl⟩ (fun _ => rfl) rfl (fun g M hm => ?_)
  refine jj_aload_n 0 dd_Mo_init_188 rfl ?_
  refine jj_bipush (v := 48) dd_Mo_init_189 rfl ?_
  refine jj_mstep (k := 29) (ai := 1) (N := 48) 1 48 hm rfl rfl ha h60 hD dd_Mo_init_191 (Or.inr (Or.inl rfl)) rfl ca_boolean (by decide) rfl (Nat.le_of_ble_eq_true rfl) (Nat.le_of_ble_eq_true rfl) (Nat.le_of_ble_eq_true rfl) dd_Mo_init_193 ⟨fg_Mo_84, rfl⟩ (fun _ => rfl) rfl (fun g M hm => ?_)
  refine jj_aload_n 0 dd_Mo_init_196 rfl ?_
  refine jj_bipush (v := 48) dd_Mo_init_197 rfl ?_
  refine jj_mstep (k := 30) (ai := 1) (N := 48) 0 0 hm rfl rfl ha h60 hD dd_Mo_init_199 (Or.inr (Or.inl rfl)) rfl ca_boolean (by decide) rfl (Nat.le_of_ble_eq_true rfl) (Nat.le_of_ble_eq_true rfl) (Nat.le_of_ble_eq_true rfl) dd_Mo_init_201 ⟨fg_Mo_87, rfl⟩ (fun _ => rfl) rfl (fun g M hm => ?_)
  have ka2 : mm_k M a = some (.inl 7) := by
    obtain ⟨D2, F2, O2, q1, q2, q3, _⟩ := hm
    obtain ⟨t, ht, hk⟩ := q1.1 60 ((q3 60).mpr (Or.inl h60))
    rw [q2 60 (Nat.le_refl _), ha] at hk
    rw [hk, ← ht]
    rfl
  have hQ := hQ _ _ hm
  unfold lfM_ at hQ
  refine jj_aload_n 0 dd_Mo_init_204 rfl ?_
  refine jj_iload_n 1 dd_Mo_init_205 rfl ?_
  refine jj_iconst (v := 1) dd_Mo_init_206 rfl ?_
  refine jj_icmp_ge (tgt := 214) dd_Mo_init_207 (by decide) (fun h207 => ?_) (fun h207 => ?_)
  · skip
    refine jj_iload_n 1 dd_Mo_init_214 rfl ?_
    refine jj_bipush (v := 20) dd_Mo_init_215 rfl ?_
    refine jj_icmp_le (tgt := 225) dd_Mo_init_217 (by decide) (fun h217 => ?_) (fun h217 => ?_)
    · skip
      refine jj_iload_n 1 dd_Mo_init_225 rfl ?_
      refine jj_puti dd_Mo_init_226 (Or.inr ⟨fg_Mo_90, rfl⟩) ka2 (fun _ => rfl) ⟨rfl, rfl⟩ ?_
      refine jj_vret dd_Mo_init_229 rfl ?_
      rw [if_pos h207, if_pos h217] at hQ
      exact hQ
    · skip
      refine jj_bipush (v := 20) dd_Mo_init_220 rfl ?_
      refine jj_goto (tgt := 226) dd_Mo_init_222 (by decide) ?_
      refine jj_puti dd_Mo_init_226 (Or.inr ⟨fg_Mo_90, rfl⟩) ka2 (fun _ => rfl) ⟨rfl, rfl⟩ ?_
      refine jj_vret dd_Mo_init_229 rfl ?_
      rw [if_pos h207, if_neg h217] at hQ
      exact hQ
  · skip
    refine jj_iconst (v := 1) dd_Mo_init_210 rfl ?_
    refine jj_goto (tgt := 226) dd_Mo_init_211 (by decide) ?_
    refine jj_puti dd_Mo_init_226 (Or.inr ⟨fg_Mo_90, rfl⟩) ka2 (fun _ => rfl) ⟨rfl, rfl⟩ ?_
    refine jj_vret dd_Mo_init_229 rfl ?_
    rw [if_neg h207] at hQ
    exact hQ
