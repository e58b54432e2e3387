theorem i_cases {y : Int32} (n : Nat) (hn : n < 100) (h0 : ¬ y < 0) (h1 : ¬ nI n < y) : ∃ k, k ≤ n ∧ y = nI k := by
  rw [Int32.lt_iff_toInt_lt, i_0] at h0
  rw [Int32.lt_iff_toInt_lt, nI_toInt (by omega)] at h1
  refine ⟨y.toInt.toNat, by omega, i_eq ?_⟩
  rw [nI_toInt (by omega)]; omega
section LK
variable {A B : Nat → Nat → Int32} {T : Int32 → Int32} {u : Int} {h : Nat → Nat} {q : Nat} {S : ss_} {F : Nat → Nat → Int32}
theorem oc_eq {y : Int32} {K : Int32 → (Nat → Nat → Int32) → Prop} (hs : sim_ A B T u h q S F) (hK : K (orC_ S.1 y) F) : oc_ F y K := by
  obtain ⟨a1, a2, a3, a4, _⟩ := hs.2.1
  unfold oc_
  unfold orC_ at hK
  rw [a2, a3, a4]
  by_cases h0 : y = 0
  · rw [if_pos h0] at hK ⊢; exact hK
  · rw [if_neg h0] at hK ⊢
    by_cases h1 : y = 1
    · rw [if_pos h1] at hK ⊢; exact hK
    · rw [if_neg h1] at hK ⊢
      by_cases h2 : y = 2
      · rw [if_pos h2] at hK ⊢; exact hK
      · rw [if_neg h2] at hK ⊢; exact hK
theorem ta_out {t : Nat} {y : Int32} (hy : y < 0 ∨ 2 < y) : taC_ S.1 t y = -1 := by
  have ne : ∀ z : Int32, 0 ≤ z.toInt → z.toInt ≤ 2 → ¬ y = z := fun z a b e => by
    subst e
    rcases hy with hy | hy
    · rw [Int32.lt_iff_toInt_lt, i_0] at hy; omega
    · rw [Int32.lt_iff_toInt_lt, show (2 : Int32).toInt = 2 from by decide] at hy; omega
  unfold taC_
  rw [if_neg (ne 0 (by decide) (by decide)), if_neg (ne 1 (by decide) (by decide)), if_neg (ne 2 (by decide) (by decide))]
theorem tb_eq {t : Nat} {y : Int32} {K : Int32 → (Nat → Nat → Int32) → Prop} (hs : sim_ A B T u h q S F) (ht : t < 3) (hy : ¬ y < 0) (hy2 : ¬ 2 < y) (hK : K (taC_ S.1 t y) F) : tb_ F t y K := by
  obtain ⟨b1, b2, b3, b4, b5, b6, b7, b8⟩ := hs.2.2.1 t ht
  have hup := up_iff hs ht
  obtain ⟨k, k1, k2⟩ := i_cases 2 (by omega) hy hy2
  unfold tb_
  unfold taC_ at hK
  subst k2
  match k, k1 with
  | 0, _ =>
    rw [if_pos (by decide)] at hK ⊢
    rw [b3]; exact hK
  | 1, _ =>
    rw [if_neg (by decide), if_pos (by decide)] at hK
    rw [if_neg (by decide), if_neg (by decide)]
    by_cases h0 : S.1 (10 + t) 0 = 0
    · rw [if_pos h0] at hK; rw [if_neg (hup.mp h0)]; exact hK
    · rw [if_neg h0] at hK
      rw [if_pos (Classical.byContradiction fun e => h0 (hup.mpr e)), b2]; exact hK
  | 2, _ =>
    rw [if_neg (by decide), if_neg (by decide), if_pos (by decide)] at hK
    rw [if_neg (by decide), if_pos (by decide), b4]; exact hK
theorem tx_out {c : Nat} {y : Int32} (hy : y < 0 ∨ 5 < y) : txa_ S.1 c y = -1 := by
  have ne : ∀ z : Int32, 0 ≤ z.toInt → z.toInt ≤ 5 → ¬ y = z := fun z a b e => by
    subst e
    rcases hy with hy | hy
    · rw [Int32.lt_iff_toInt_lt, i_0] at hy; omega
    · rw [Int32.lt_iff_toInt_lt, show (5 : Int32).toInt = 5 from by decide] at hy; omega
  unfold txa_
  rw [if_neg (ne 0 (by decide) (by decide)), if_neg (ne 1 (by decide) (by decide)), if_neg (ne 2 (by decide) (by decide)), if_neg (ne 3 (by decide) (by decide)), if_neg (ne 4 (by decide) (by decide)), if_neg (ne 5 (by decide) (by decide))]
theorem tx_eq {c : Nat} {y : Int32} {K : Int32 → (Nat → Nat → Int32) → Prop} (hs : sim_ A B T u h q S F) (hc : c < 4) (hy : ¬ y < 0) (hy2 : ¬ 5 < y) (hK : K (txa_ S.1 c y) F) : if F 83 c = 0 then K 0 F else ta_ F c y (tr_go F c y 12 0 0) K := by
  obtain ⟨k, k1, k2⟩ := i_cases 5 (by omega) hy hy2
  rcases (hs.2.2.2.2.2.2.1 c hc).2 with ⟨e1, e2, e3⟩ | hX
  · rw [if_pos e2]
    have hz : txa_ S.1 c y = 0 := by
      unfold txa_
      rw [e3 2 (by omega) (by omega), e3 3 (by omega) (by omega), e3 4 (by omega) (by omega), e3 5 (by omega) (by omega), e3 6 (by omega) (by omega), e3 8 (by omega) (by omega), e3 10 (by omega) (by omega)]
      subst k2
      match k, k1 with
      | 0, _ => decide
      | 1, _ => decide
      | 2, _ => decide
      | 3, _ => decide
      | 4, _ => decide
      | 5, _ => decide
    rw [hz] at hK; exact hK
  · obtain ⟨x1, x2, ⟨y1, y2, y3⟩, ⟨z1, z2, z3, z4, z5, z6, z7⟩, ⟨v0, v1⟩, ⟨w0, w1, w2, w3, w4⟩⟩ := hX
    have h83 : ¬ F 83 c = 0 := by rcases x2 with ⟨_, e⟩ | ⟨_, e⟩ <;> rw [e] <;> decide
    rw [if_neg h83]
    have ht3 : tr_go F c 3 12 0 0 = S.1 (40 + c) 6 := bs_eq (tr_bs (b := wb_ F c) (fun k hk => by
      rw [if_pos rfl, pos_iff (z1 k hk)]; unfold wb_; rw [decide_eq_true_iff])) z4
    have ht4 : tr_go F c 4 12 0 0 = S.1 (40 + c) 8 := bs_eq (tr_bs (b := pb_ F c) (fun k hk => by
      rw [if_neg (by decide)]; unfold pb_; rw [decide_eq_true_iff])) z6
    unfold ta_
    unfold txa_ at hK
    subst k2
    match k, k1 with
    | 0, _ =>
      rw [if_pos (by decide)] at hK ⊢
      rcases x2 with ⟨a, b⟩ | ⟨a, b⟩
      · rw [x1, a] at hK; rw [b]; exact hK
      · rw [x1, a] at hK; rw [b]; exact hK
    | 1, _ =>
      rw [if_neg (by decide), if_pos (by decide)] at hK ⊢
      rw [y1]; exact hK
    | 2, _ =>
      rw [if_neg (by decide), if_neg (by decide), if_pos (by decide)] at hK ⊢
      rw [y2]; exact hK
    | 3, _ =>
      rw [if_neg (by decide), if_neg (by decide), if_neg (by decide), if_pos (by decide)] at hK
      rw [if_neg (by decide), if_neg (by decide), if_neg (by decide), if_neg (by decide)]
      rw [show nI 3 = 3 from by decide, ht3]; exact hK
    | 4, _ =>
      rw [if_neg (by decide), if_neg (by decide), if_neg (by decide), if_neg (by decide), if_pos (by decide)] at hK
      rw [if_neg (by decide), if_neg (by decide), if_neg (by decide), if_neg (by decide)]
      rw [show nI 4 = 4 from by decide, ht4]; exact hK
    | 5, _ =>
      rw [if_neg (by decide), if_neg (by decide), if_neg (by decide), if_neg (by decide), if_neg (by decide), if_pos (by decide)] at hK
      rw [if_neg (by decide), if_neg (by decide), if_neg (by decide), if_pos (by decide)]
      rcases y3 with ⟨a, b⟩ | ⟨a, b⟩
      · rw [a, if_pos rfl] at hK; rw [b, if_pos rfl]; exact hK
      · rw [a, if_neg (by decide)] at hK; rw [b, if_neg (by decide)]; exact hK
theorem lk_out {o : Option (Nat → Int32)} {y : Int32} (hy : y < 0 ∨ 5 < y) : lkR_ S.1 y o = -1 := by
  have ne : ∀ z : Int32, 0 ≤ z.toInt → z.toInt ≤ 5 → ¬ y = z := fun z a b e => by
    subst e
    rcases hy with hy | hy
    · rw [Int32.lt_iff_toInt_lt, i_0] at hy; omega
    · rw [Int32.lt_iff_toInt_lt, show (5 : Int32).toInt = 5 from by decide] at hy; omega
  cases o with
  | none => rfl
  | some f =>
    simp only [lkR_]
    unfold lkA_
    rw [if_neg (ne 4 (by decide) (by decide)), if_neg (ne 0 (by decide) (by decide)), if_neg (ne 1 (by decide) (by decide)), if_neg (ne 2 (by decide) (by decide)), if_neg (ne 3 (by decide) (by decide)), if_neg (ne 5 (by decide) (by decide))]
theorem lk_eq {i : Nat} {y : Int32} {K : Int32 → (Nat → Nat → Int32) → Prop} (hs : sim_ A B T u h q S F) (hi : i < 12) (hy : ¬ y < 0) (hy2 : ¬ 5 < y) (hK : K (if S.1 (10 + i / 4) 0 = 0 then -1 else lkR_ S.1 y (S.2.1 i)) F) : lk_ F i y K := by
  have hup := up_iff (t := i / 4) hs (by omega)
  obtain ⟨k, k1, k2⟩ := i_cases 5 (by omega) hy hy2
  unfold lk_
  cases hL : S.2.1 i with
  | none =>
    have h65 : F 65 i = 0 := by have := hs.2.2.2.2.1 i hi; rw [hL] at this; exact this
    rw [if_pos h65]
    rw [hL] at hK
    have : (if S.1 (10 + i / 4) 0 = 0 then (-1 : Int32) else lkR_ S.1 y none) = -1 := by split <;> rfl
    rw [this] at hK; exact hK
  | some f =>
    obtain ⟨l0, l1, l2, l3, l4, l5, l6, l7, l8, l9⟩ := sim_sl hs hi hL
    have h65 : ¬ F 65 i = 0 := fun e => by rw [e, i_0] at l7; omega
    rw [if_neg h65]
    rw [hL] at hK
    by_cases h0 : S.1 (10 + i / 4) 0 = 0
    · rw [if_pos h0] at hK; rw [if_neg (hup.mp h0)]; exact hK
    · rw [if_neg h0] at hK
      rw [if_pos (Classical.byContradiction fun e => h0 (hup.mpr e))]
      simp only [lkR_] at hK
      have ho4 : on_ F i < 4 := (hs.2.2.2.1.2 i hi).2
      have hc2 : cN_ f = on_ F i := by unfold cN_ on_; rw [l2]
      have hls := ls_eq hs hi hL ho4
      unfold lkA_ at hK
      subst k2
      match k, k1 with
      | 0, _ =>
        rw [if_neg (by decide), if_pos (by decide), l0] at hK
        rw [if_neg (by decide), if_pos (by decide)]; exact hK
      | 1, _ =>
        rw [if_neg (by decide), if_neg (by decide), if_pos (by decide), l1] at hK
        rw [if_neg (by decide), if_neg (by decide), if_pos (by decide)]; exact hK
      | 2, _ =>
        rw [if_neg (by decide), if_neg (by decide), if_neg (by decide), if_pos (by decide), l2] at hK
        rw [if_neg (by decide), if_neg (by decide), if_neg (by decide)]; exact hK
      | 3, _ =>
        rw [if_neg (by decide), if_neg (by decide), if_neg (by decide), if_neg (by decide), if_pos (by decide), l3] at hK
        rw [if_pos (by decide), if_pos (by decide)]; exact hK
      | 4, _ =>
        rw [if_pos (by decide), hc2, hls] at hK
        rw [if_pos (by decide), if_neg (by decide), if_pos (by decide)]
        by_cases e : ls_ F i (on_ F i) = 0
        · rw [if_pos e] at hK ⊢; exact hK
        · rw [if_neg e] at hK ⊢; exact hK
      | 5, _ =>
        rw [if_neg (by decide), if_neg (by decide), if_neg (by decide), if_neg (by decide), if_neg (by decide), if_pos (by decide), l5] at hK
        rw [if_pos (by decide), if_neg (by decide), if_neg (by decide)]
        rcases l4 with ⟨a, _⟩ | ⟨a, _, b⟩
        · rw [if_pos a]; exact hK
        · rw [if_neg (by rw [a]; decide)]; rw [b] at hK; exact hK
theorem vv_out {o : Option vv_} {y : Int32} (hy : y < 0 ∨ 3 < y) : vvR_ y o = -1 := by
  have ne : ∀ z : Int32, 0 ≤ z.toInt → z.toInt ≤ 3 → ¬ y = z := fun z a b e => by
    subst e
    rcases hy with hy | hy
    · rw [Int32.lt_iff_toInt_lt, i_0] at hy; omega
    · rw [Int32.lt_iff_toInt_lt, show (3 : Int32).toInt = 3 from by decide] at hy; omega
  cases o with
  | none => rfl
  | some v =>
    simp only [vvR_]
    unfold vvA_
    rw [if_neg (ne 0 (by decide) (by decide)), if_neg (ne 1 (by decide) (by decide)), if_neg (ne 2 (by decide) (by decide)), if_neg (ne 3 (by decide) (by decide))]
theorem vat_mem : ∀ {V : List vv_} {m : Nat} {v : vv_}, vat_ m V = some v → v ∈ V := by
  intro V
  induction V with
  | nil => intro m v h; cases m <;> cases h
  | cons a V ih =>
    intro m v h
    cases m with
    | zero => cases h; exact List.mem_cons_self
    | succ m => exact List.mem_cons_of_mem _ (ih (m := m) h)
theorem ra_eq {i m : Nat} {y : Int32} {K : Int32 → (Nat → Nat → Int32) → Prop} (hs : sim_ A B T u h q S F) (hu : u < 1000000) (hh : h i < 600) (hi : i < 12) (hm : m < 2 ^ 31) (hy : ¬ y < 0) (hy2 : ¬ 3 < y) (hK : K (if S.1 (10 + i / 4) 0 = 0 then -1 else vvR_ y (vat_ m (S.2.2 i))) F) : if F 77 (i / 4) = 0 then ra_ F y (ro_go F (nI i) (nI m) (rec_ F + 2) 0 2147483647 (-1)) K else K (-1) F := by
  have hup := up_iff (t := i / 4) hs (by omega)
  have hrl := rec_lt F
  obtain ⟨k, k1, k2⟩ := i_cases 3 (by omega) hy hy2
  obtain ⟨b1, b2, b3, b4, b5⟩ := hs.2.2.2.2.2.1 i hi
  have hnx := hs.2.1.2.2.2.2.2.1
  by_cases h0 : S.1 (10 + i / 4) 0 = 0
  · rw [if_pos h0] at hK; rw [if_neg (hup.mp h0)]; exact hK
  · rw [if_neg h0] at hK
    rw [if_pos (Classical.byContradiction fun e => h0 (hup.mpr e))]
    have hro := ro_eq (m := m) b4 hm (by omega) b3 (fun v hv => by have := (b5 v hv).2.2.2.2.2; omega)
    generalize ro_go F (nI i) (nI m) (rec_ F + 2) 0 2147483647 (-1) = z at hro ⊢
    unfold ra_
    cases hv : vat_ m (S.2.2 i) with
    | none =>
      rw [hv] at hro hK
      have hro : z < 0 := hro
      rw [if_neg (mm_nle hro)]; exact hK
    | some v =>
      rw [hv] at hro hK
      obtain ⟨j, j1, j2, j3⟩ := hro
      have hg := b5 v (vat_mem hv)
      rw [if_pos (by rw [j2]; exact nI_pos' (by omega)), j2, nI_clamp (by omega)]
      simp only [vvR_] at hK
      unfold vvA_ at hK
      have e0 : v.1 = F 73 j := by rw [j3]; rfl
      have e1 : v.2.1 = F 74 j := by rw [j3]; rfl
      have e2 : v.2.2.1 = F 75 j := by rw [j3]; rfl
      have e3 : v.2.2.2 = F 76 j := by rw [j3]; rfl
      have hg1 := hg.1
      rw [e2, e3] at hg1
      rw [e0, e1, e2, e3] at hK
      subst k2
      match k, k1 with
      | 0, _ => rw [if_pos (by decide)] at hK ⊢; exact hK
      | 1, _ => rw [if_neg (by decide), if_pos (by decide)] at hK ⊢; exact hK
      | 2, _ => rw [if_neg (by decide), if_neg (by decide), if_pos (by decide)] at hK ⊢; exact hK
      | 3, _ =>
        rw [if_neg (by decide), if_neg (by decide), if_neg (by decide), if_pos (by decide)] at hK
        rw [if_neg (by decide), if_neg (by decide), if_neg (by decide)]
        by_cases e : F 75 j = 1
        · rw [if_pos e]; exact hK
        · rw [if_neg e]; rw [hg1 e] at hK; exact hK
end LK
theorem inv_ci {n : Nat} {S : ss_} (hn : n < 512) (hi : inv_ n S) : ci_ S := by
  obtain ⟨T, hs⟩ := hi
  refine ⟨fun t ht => ?_, fun i hi => ?_, fun i f hi hL => ?_⟩
  · rcases (hs.2.2.1 t ht).1 with ⟨a, _⟩ | ⟨a, _⟩
    · exact Or.inr a
    · exact Or.inl a
  · obtain ⟨b1, b2, _⟩ := hs.2.2.2.2.2.1 i hi
    have b2 : (S.2.2 i).length ≤ n := b2
    rw [b1, show (512 : Int32) = nI 512 from by decide]
    exact nI_lt (by omega) (by decide)
  · obtain ⟨l0, l1, l2, _⟩ := sim_sl hs hi hL
    have h1 := hs.2.2.2.1.1 i hi
    have h2 := hs.2.2.2.1.2 i hi
    unfold pN_ cN_
    rw [l1, l2]
    exact ⟨h1.1, h1.2, h2.1, h2.2⟩
