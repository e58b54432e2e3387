theorem oo_dom {n : Nat} {t : mm_K} (h : oo_k n = some t) : dm_ 4 3 12 4 n ∨ n = 60 ∨ (∃ i, oo_m i = true ∧ i < 31 ∧ n = 60 + i) ∨ n = 100 := by
  by_cases h1 : dm_ 4 3 12 4 n
  · exact Or.inl h1
  · by_cases h2 : n = 60
    · exact Or.inr (Or.inl h2)
    · by_cases h3 : n = 100
      · exact Or.inr (Or.inr (Or.inr h3))
      · by_cases h4 : (65 ≤ n ∧ n < 71) ∨ (72 ≤ n ∧ n < 91)
        · refine Or.inr (Or.inr (Or.inl ⟨n - 60, ?_, by omega, by omega⟩))
          unfold oo_m
          simp only [Bool.or_eq_true, Bool.and_eq_true, decide_eq_true_eq]
          omega
        · exfalso
          unfold dm_ at h1
          unfold oo_k at h
          rw [if_neg (by omega), if_neg (by omega), if_neg (by omega), if_neg (by omega), if_neg (by omega), if_neg (by omega), if_neg (by omega), if_neg (by omega), if_neg (by omega), if_neg (by omega), if_neg (by omega), if_neg (by omega), if_neg (by omega), if_neg (by omega), if_neg (by omega), if_neg (by omega), if_neg (by omega), if_neg (by omega), if_neg (by omega), if_neg (by omega)] at h
          cases h
theorem rp_of_cn {g : Nat → Nat} {M : mm_M} {D : Nat → Bool} {F : Nat → Nat → Int32} {O : Nat → Nat → Option Nat} (hC : cn_ g M D F O) (hD : ∀ n t, oo_k n = some t → D n = true)
    (o0 : O 0 1 = some 1 ∧ O 0 2 = some 2 ∧ O 0 3 = some 3 ∧ O 0 4 = some 4) (o2 : ∀ t, t < 3 → O 2 t = some (10 + t)) (o3 : ∀ i, i < 12 → O 3 i = some (20 + i) ∧ O (20 + i) 0 = some (10 + i / 4) ∧ O (20 + i) 1 = none ∧ O (20 + i) 2 = none)
    (o4 : ∀ c, c < 4 → O 4 c = some (40 + c) ∧ O (40 + c) 1 = some (50 + c)) (o6 : ∀ k, oo_m k = true → O 60 k = some (60 + k)) : rp_ g M (fun n j => if D n = true then F n j else 0, fun _ => none, fun _ => []) := by
  obtain ⟨c1, c2, c3, c4, c5⟩ := hC
  have r : ∀ n t j m, oo_k n = some t → O n j = some m → mm_r M (g n) j = some (g m) := fun n t j m hn hO => by rw [c4 n (hD n t hn) j, hO]; rfl
  have rn : ∀ n t j, oo_k n = some t → O n j = none → mm_r M (g n) j = none := fun n t j hn hO => by rw [c4 n (hD n t hn) j, hO]; rfl
  refine ⟨⟨fun n t hn => ?_, fun n n' t t' hn hn' e => c2 n n' (hD n t hn) (hD n' t' hn') e, ⟨r 0 _ 1 1 rfl o0.1, r 0 _ 2 2 rfl o0.2.1, r 0 _ 3 3 rfl o0.2.2.1, r 0 _ 4 4 rfl o0.2.2.2⟩, fun t ht => r 2 _ t _ rfl (o2 t ht), fun i hi => ⟨r 3 _ i _ rfl (o3 i hi).1, r (20 + i) _ 0 _ (ok_c hi) (o3 i hi).2.1⟩, fun c hc => ⟨r 4 _ c _ rfl (o4 c hc).1, r (40 + c) _ 1 _ (ok_x hc) (o4 c hc).2⟩, fun k hk => r 60 _ k _ rfl (o6 k hk)⟩, fun n t hn j => ?_, fun i hi => ?_, fun _ => [], fun i hi => ⟨?_, rfl, List.nodup_nil⟩, fun i j _ _ _ a ha => by cases ha⟩
  · obtain ⟨t', a1, a2⟩ := c1 n (hD n t hn)
    rw [a2, ← a1, hn]
  · show _ = if D n = true then F n j else 0
    rw [if_pos (hD n t hn)]
    exact c3 n (hD n t hn) j
  · exact rn (20 + i) _ 1 (ok_c hi) (o3 i hi).2.2.1
  · rw [rn (20 + i) _ 2 (ok_c hi) (o3 i hi).2.2.2]
    exact trivial
def M0_ : mm_M := (fun _ => none, fun _ _ => 0, fun _ _ => none, fun _ _ => 0)
theorem cn_0s : cn_ (fun _ => 0) M0_ (fun _ => false) (fun _ _ => 0) (fun _ _ => none) := ⟨fun n h => Bool.noConfusion h, fun n n' h => Bool.noConfusion h, fun n h => Bool.noConfusion h, fun n h => Bool.noConfusion h, fun n j m h => Bool.noConfusion h⟩
set_option maxRecDepth 20000 in
theorem law_run {l : Launch} (hfl : l.flags = pinnedFlags ++ [noTraceFlag]) {G : mm_G} {A : Nat → Prop} {b L : Nat} {xs : Nat → Int32} (hG : sk_ G b L xs) (hL2 : L ≤ 2049) : jj_ l yy_La_law code 7 (some .boolean) G room_1 A (mm_ret (fun v _ => v = some (.int 1))) 2103 19479 0 [(0, .ref b)] [] M0_ := by
  refine jj_new (ci := 0) 2102 19473 dd_La_law_0 (by decide) cl_La_8 cn_0 ck_0 (Nat.le_of_ble_eq_true rfl) (Nat.le_of_ble_eq_true rfl) (fun q nq => ?_)
  obtain ⟨g1, _, hg1, hC1⟩ := cn_nw (t := .inl 0) 0 cn_0s nq rfl rfl
  refine jj_dup dd_La_law_3 rfl ?_
  refine jj_aload_n 0 dd_La_law_4 rfl ?_
  refine jj_iconst (v := 0) dd_La_law_5 rfl ?_
  refine jj_callG [.ref b, .int 0] [.ref q, .ref q] 2102 19473 dd_La_law_6 cs_La_39 ci_La_39 rfl (Nat.le_of_ble_eq_true rfl) ⟨(Nat.le_of_ble_eq_true rfl), (Nat.le_of_ble_eq_true rfl)⟩ ⟨(Nat.le_of_ble_eq_true rfl), (Nat.le_of_ble_eq_true rfl)⟩ rfl (cg_La_cell hG (by omega) ?_)
  refine jj_callI [_] [.ref q] 2075 19294 dd_La_law_9 cs_La_45 ci_La_45 rfl (Nat.le_of_ble_eq_true rfl) ⟨(Nat.le_of_ble_eq_true rfl), (Nat.le_of_ble_eq_true rfl)⟩ ⟨(Nat.le_of_ble_eq_true rfl), (Nat.le_of_ble_eq_true rfl)⟩ rfl (ct_TC_init hC1 (fun n => ?_) hg1 (fun j => rfl) (fun g2 M2 hT => ?_))
  · rw [up_at]
    by_cases e : n = 0
    · rw [if_pos e]; exact ⟨fun _ => e, fun _ => rfl⟩
    · rw [if_neg e]; exact ⟨fun h => Bool.noConfusion h, fun h => absurd h e⟩
  refine jj_astore_n (lv' := [(1, .ref q), (0, .ref b)]) dd_La_law_12 (Nat.le_of_ble_eq_true rfl) rfl ?_
  refine jj_new (ci := 7) 2074 19263 dd_La_law_13 (by decide) cl_La_48 cn_7 ck_7 (Nat.le_of_ble_eq_true rfl) (Nat.le_of_ble_eq_true rfl) (fun q2 nq2 => ?_)
  obtain ⟨D, F, O, c1, c2, c3, f0, f1, f2, f3, f4, ft, fc, fx⟩ := hT
  have hDn : ∀ n, ¬ dm_ 4 3 12 4 n → D n = false := fun n hn => by
    cases hh : D n with
    | false => rfl
    | true => exact absurd ((c3 n).mp hh) hn
  obtain ⟨g3, e3, e3', hC3⟩ := cn_nw (t := .inl 7) 60 c1 nq2 rfl (hDn 60 (by unfold dm_; omega))
  refine jj_dup dd_La_law_16 rfl ?_
  refine jj_aload_n 1 dd_La_law_17 rfl ?_
  refine jj_iconst (v := 0) dd_La_law_18 rfl ?_
  refine jj_callG [.ref b, .int 0] [.ref q2, .ref q2] 2074 19263 dd_La_law_19 cs_La_39 ci_La_39 rfl (Nat.le_of_ble_eq_true rfl) ⟨(Nat.le_of_ble_eq_true rfl), (Nat.le_of_ble_eq_true rfl)⟩ ⟨(Nat.le_of_ble_eq_true rfl), (Nat.le_of_ble_eq_true rfl)⟩ rfl (cg_La_cell hG (by omega) ?_)
  refine jj_callI [_] [.ref q2] 2049 11265 dd_La_law_22 cs_La_50 ci_La_50 rfl (Nat.le_of_ble_eq_true rfl) ⟨(Nat.le_of_ble_eq_true rfl), (Nat.le_of_ble_eq_true rfl)⟩ ⟨(Nat.le_of_ble_eq_true rfl), (Nat.le_of_ble_eq_true rfl)⟩ rfl (ct_Mo_init hC3 e3' (up_s _ _ _) (fun i hi => ?_) (fun g4 M4 hMi => ?_))
  · have h5 : 5 ≤ i := by
      unfold oo_m at hi
      simp only [Bool.or_eq_true, Bool.and_eq_true, decide_eq_true_eq] at hi
      omega
    rw [up_o _ _ _ _ (by omega)]
    exact hDn _ (by unfold dm_; omega)
  refine jj_astore_n (lv' := [(2, .ref q2), (1, .ref q), (0, .ref b)]) dd_La_law_25 (Nat.le_of_ble_eq_true rfl) rfl ?_
  refine jj_iconst (v := 1) dd_La_law_26 rfl ?_
  refine jj_newa (ai := 2) (N := 1) 2048 11264 dd_La_law_27 (Or.inr (Or.inr rfl)) rfl ca_long (by decide) rfl (Nat.le_of_ble_eq_true rfl) (Nat.le_of_ble_eq_true rfl) (Nat.le_of_ble_eq_true rfl) (fun q3 nq3 => ?_)
  refine jj_astore_n (lv' := [(3, .ref q3), (2, .ref q2), (1, .ref q), (0, .ref b)]) dd_La_law_29 (Nat.le_of_ble_eq_true rfl) rfl ?_
  refine jj_iconst (v := 1) dd_La_law_30 rfl ?_
  refine jj_istore (lv' := [(4, .int 1), (3, .ref q3), (2, .ref q2), (1, .ref q), (0, .ref b)]) dd_La_law_31 (Nat.le_of_ble_eq_true rfl) rfl ?_
  generalize hv : (if 0 < L then xs 0 else 0) = v at *
  obtain ⟨D5, F5, O5, c5, m1, m2, m3, m4, m5⟩ := hMi
  have g460 : g4 60 = q2 := (m1 60 (by omega)).trans e3'
  have hD560 : D5 60 = true := (m2 60).mpr (Or.inl (up_s _ _ _))
  have hD5100 : D5 100 = false := by
    cases hh : D5 100 with
    | false => rfl
    | true =>
      rcases (m2 100).mp hh with h | ⟨i, _, h1, h2⟩
      · rw [up_o _ _ _ _ (by omega), hDn 100 (by unfold dm_; omega)] at h
        exact Bool.noConfusion h
      · omega
  have c6 := cn_si (j := 0) (x := lfM_ v) 60 c5 g460 hD560
  obtain ⟨g7, h7, h7', c7⟩ := cn_nw (t := .inr (2, 1)) 100 c6 nq3 rfl hD5100
  have hD7 : ∀ n t, oo_k n = some t → up_ D5 100 true n = true := fun n t hn => by
    by_cases e : n = 100
    · rw [e]; exact up_s _ _ _
    · rw [up_o _ _ _ _ e]
      refine (m2 n).mpr ?_
      rcases oo_dom hn with h | h | h | h
      · refine Or.inl ?_
        rw [up_o _ _ _ _ (by unfold dm_ at h; omega)]
        exact (c3 n).mpr h
      · rw [h]; exact Or.inl (up_s _ _ _)
      · exact Or.inr h
      · exact absurd h e
  have hO : ∀ n j, n < 60 → zo_ O5 100 n j = O n j := fun n j hn => by
    rw [zo_at, if_neg (by omega), m4 n j hn, zo_at, if_neg (by omega)]
  have hF : ∀ n j, n < 60 → zf_ (uf_ F5 60 0 (lfM_ v)) 100 n j = F n j := fun n j hn => by
    rw [zf_at, if_neg (by omega), uf_o _ _ _ _ _ _ (by omega), m3 n j (by omega), uf_o _ _ _ _ _ _ (by omega), zf_at, if_neg (by omega)]
  have hF60 : ∀ j, j ≠ 0 → j ≠ 3 → zf_ (uf_ F5 60 0 (lfM_ v)) 100 60 j = 0 := fun j h1 h2 => by
    rw [zf_at, if_neg (by omega), uf_o _ _ _ _ _ _ (by omega), m3 60 j (by omega), uf_o _ _ _ _ _ _ (by omega), zf_at, if_pos rfl]
  have hrp := rp_of_cn c7 hD7 ⟨by rw [hO 0 1 (by omega)]; exact (f1 (by omega)).1, by rw [hO 0 2 (by omega)]; exact f2 (by omega), by rw [hO 0 3 (by omega)]; exact f3 (by omega), by rw [hO 0 4 (by omega)]; exact f4 (by omega)⟩
    (fun t ht => by rw [hO 2 t (by omega)]; exact (ft t ht).1)
    (fun i hi => ⟨by rw [hO 3 i (by omega)]; exact (fc i hi).1, by rw [hO _ 0 (by omega)]; exact (fc i hi).2.1, by rw [hO _ 1 (by omega)]; exact (fc i hi).2.2.1, by rw [hO _ 2 (by omega)]; exact (fc i hi).2.2.2.1⟩)
    (fun c hc => ⟨by rw [hO 4 c (by omega)]; exact (fx c hc).1, by rw [hO _ 1 (by omega)]; exact (fx c hc).2.1⟩)
    (fun k hk => by
      have h31 : k < 31 := by
        unfold oo_m at hk
        simp only [Bool.or_eq_true, Bool.and_eq_true, decide_eq_true_eq] at hk
        omega
      rw [zo_at, if_neg (by omega)]
      exact (m5 k hk h31).1)
  have hon : ∀ n t j, oo_k n = some t → (if up_ D5 100 true n = true then zf_ (uf_ F5 60 0 (lfM_ v)) 100 n j else 0) = zf_ (uf_ F5 60 0 (lfM_ v)) 100 n j := fun n t j hn => if_pos (hD7 n t hn)
  have e0 : zf_ (uf_ F5 60 0 (lfM_ v)) 100 60 0 = lfM_ v := by rw [zf_at, if_neg (by omega), uf_s]
  have e3v : zf_ (uf_ F5 60 0 (lfM_ v)) 100 60 3 = 1 := by
    rw [zf_at, if_neg (by omega), uf_o _ _ _ _ _ _ (by omega), m3 60 3 (by omega), uf_s]
  have hinv : inv_ 0 (fun n j => if up_ D5 100 true n = true then zf_ (uf_ F5 60 0 (lfM_ v)) 100 n j else 0, fun _ => none, fun _ => []) := by
    refine inv_zero ?_ ?_ ?_ ?_ ?_ ?_ ?_ (fun t ht => ⟨?_, fun j hj => ?_⟩) (fun _ _ => rfl) (fun i hi => ⟨rfl, ?_⟩) (fun c hc => ⟨?_, fun j hj => ?_⟩) (fun n j hn1 hn2 => ?_)
    · refine (hon 60 _ 0 rfl).trans (Eq.trans ?_ (hon 0 _ 0 rfl).symm)
      rw [e0, hF 0 0 (by omega), f0.1, lf_eq]
    · refine (hon 60 _ 2 rfl).trans (Eq.trans ?_ (hon 0 _ 5 rfl).symm)
      rw [hF60 2 (by omega) (by omega), hF 0 5 (by omega), f0.2]
    · refine (hon 1 _ 0 rfl).trans ?_
      rw [hF 1 0 (by omega)]; exact (f1 (by omega)).2.1
    · refine (hon 1 _ 1 rfl).trans ?_
      rw [hF 1 1 (by omega)]; exact (f1 (by omega)).2.2
    · exact (hon 60 _ 3 rfl).trans e3v
    · exact (hon 60 _ 4 rfl).trans (hF60 4 (by omega) (by omega))
    · exact (hon 60 _ 11 rfl).trans (hF60 11 (by omega) (by omega))
    · refine (hon (10 + t) _ 0 (ok_t ht)).trans ?_
      rw [hF _ 0 (by omega)]; exact (ft t ht).2.1
    · refine (hon (10 + t) _ j (ok_t ht)).trans ?_
      rw [hF _ j (by omega)]; exact (ft t ht).2.2 j hj
    · refine (hon (20 + i) _ 3 (ok_c hi)).trans ?_
      rw [hF _ 3 (by omega)]; exact (fc i hi).2.2.2.2
    · refine (hon (40 + c) _ 0 (ok_x hc)).trans ?_
      rw [hF _ 0 (by omega)]; exact (fx c hc).2.2.1
    · refine (hon (40 + c) _ j (ok_x hc)).trans ?_
      rw [hF _ j (by omega)]; exact (fx c hc).2.2.2.1 j hj
    · show (if up_ D5 100 true n = true then zf_ (uf_ F5 60 0 (lfM_ v)) 100 n j else 0) = 0
      by_cases hd : up_ D5 100 true n = true
      · rw [if_pos hd, zf_at, if_neg (by omega), uf_o _ _ _ _ _ _ (by omega)]
        rw [up_o _ _ _ _ (by omega)] at hd
        rcases (m2 n).mp hd with h | ⟨i, h1, h2, h3⟩
        · rw [up_o _ _ _ _ (by omega), hDn n (by unfold dm_; omega)] at h
          exact Bool.noConfusion h
        · rw [h3]; exact (m5 i h1 h2).2 j
      · rw [if_neg hd]
  have key := law_go hfl hG hL2 (A := A) 512 0 _ _ rfl hrp hinv
  have k0 : g7 0 = q := (h7 0 (by omega)).trans ((m1 0 (by omega)).trans ((e3 0 (by omega)).trans c2))
  have k60 : g7 60 = q2 := (h7 60 (by omega)).trans g460
  rw [k0, k60, h7'] at key
  exact key
