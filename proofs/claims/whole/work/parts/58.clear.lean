section SM
variable {A B : Nat → Nat → Int32} {T : Int32 → Int32} {u : Int} {h : Nat → Nat} {q : Nat} {S : ss_} {F : Nat → Nat → Int32}
def wrF_ (F : Nat → Nat → Int32) (i : Nat) (v : vv_) : Nat → Nat → Int32 := if en_g F (i / 4) = 0 then en_F F (i / 4) else rcF_ (en_F F (i / 4)) i v
def kp_ (S : ss_) (F : Nat → Nat → Int32) (S1 : ss_) (F1 : Nat → Nat → Int32) : Prop := (∀ n, n < 10 ∨ 32 ≤ n → S1.1 n = S.1 n) ∧ (∀ n, 83 ≤ n → F1 n = F n) ∧ F1 60 1 = F 60 1
theorem kp_rfl : kp_ S F S F := ⟨fun _ _ => rfl, fun _ _ => rfl, rfl⟩
theorem kp_trans {S1 S2 : ss_} {F1 F2 : Nat → Nat → Int32} (a : kp_ S F S1 F1) (b : kp_ S1 F1 S2 F2) : kp_ S F S2 F2 := ⟨fun n hn => (b.1 n hn).trans (a.1 n hn), fun n hn => (b.2.1 n hn).trans (a.2.1 n hn), b.2.2.trans a.2.2⟩
theorem wr_lk {i i' : Nat} {v : vv_} (hne : i' ≠ i) : (wr_ S i v).2.1 i' = S.2.1 i' := by
  unfold wr_ ad_
  split
  · rfl
  · exact up_o _ _ _ _ hne
theorem wr_kp {i : Nat} {v : vv_} (hi : i < 12) : kp_ S F (wr_ S i v) (wrF_ F i v) := by
  refine ⟨fun n hn => ?_, fun n hn => ?_, ?_⟩
  · unfold wr_ ad_
    split
    · exact pl_row _ _ _ (by omega)
    · show uf_ _ _ _ _ _ = _
      rw [uf_row _ _ _ _ _ (by omega)]
      exact pl_row _ _ _ (by omega)
  · unfold wrF_
    split
    · exact en_row _ _ _ (by omega)
    · rw [rcF_row (by omega)]; exact en_row _ _ _ (by omega)
  · unfold wrF_
    split
    · rw [en_row _ _ _ (by omega)]
    · rw [rcF_o (by omega) (by omega) (by omega), en_row _ _ _ (by omega)]
theorem wrF_65 {i i' : Nat} {v : vv_} (hne : i' ≠ i) : wrF_ F i v 65 i' = F 65 i' := by
  unfold wrF_
  split
  · rw [en_row _ _ _ (by omega)]
  · rw [rcF_o (by omega) (by omega) (by omega), en_row _ _ _ (by omega)]
theorem sim_wr {i : Nat} {v : vv_} (hs : sim_ A B T u h q S F) (hi : i < 12) (hq : q < 5000) (hk : v.2.2.1 = 1 ∨ v.2.2.1 = 2 ∨ v.2.2.1 = 3) (hg : sg2_ T (S.1 1 0) v) (hn : ∀ w ∈ S.2.2 i, ¬ w.2.1 = v.2.1) : sim_ A B T u (up_ h i (h i + 1)) (q + 1) (wr_ S i v) (wrF_ F i v) := by
  have hl := sim_log (t := i / 4) hs (by omega)
  have hg2 : en_g F (i / 4) = plr_ S.1 (i / 4) := en_g0 (hs.2.2.1 (i / 4) (by omega))
  unfold wr_ wrF_
  rw [hg2]
  split
  · refine sim_mono hl (Int.le_refl _) (fun i' _ => ?_) (by omega)
    rw [up_at]; split
    · rename_i e; rw [e]; omega
    · exact Nat.le_refl _
  · have e1 : plF_ S.1 (i / 4) 1 = S.1 1 := pl_row _ _ _ (by omega)
    exact sim_rec hl hi hq hk (by show sg2_ T (plF_ S.1 (i / 4) 1 0) v; rw [e1]; exact hg) hn
theorem wr_up {i : Nat} {v : vv_} (hs : sim_ A B T u h q S F) (hi : i < 12) : plF_ S.1 (i / 4) (10 + i / 4) 0 = 0 ↔ ¬ wrF_ F i v 77 (i / 4) = 0 := by
  have hb := sB_log (hs.2.2.1 (i / 4) (by omega))
  have e : wrF_ F i v 77 (i / 4) = en_F F (i / 4) 77 (i / 4) := by
    unfold wrF_
    split
    · rfl
    · rw [rcF_row (by omega)]
  rw [e]
  rcases hb.1 with ⟨a, b⟩ | ⟨a, b⟩
  · rw [a, b]; decide
  · rw [a, b]; decide
theorem rec_en {t : Nat} : rec_ (en_F F t) = rec_ F := by unfold rec_; rw [en_row _ _ _ (by omega)]
theorem sim_sl {i : Nat} {f : Nat → Int32} (hs : sim_ A B T u h q S F) (hi : i < 12) (hL : S.2.1 i = some f) : sl_ T (S.1 1 0) (S.2.2 i) F i (some f) := by
  have := hs.2.2.2.2.1 i hi
  rw [hL] at this
  exact this
theorem dn_eq {i : Nat} {f : Nat → Int32} {w : Int32} (hs : sim_ A B T u h q S F) (hi : i < 12) (hL : S.2.1 i = some f) : dn_F F i w = wrF_ F i (dv_ f w) := by
  obtain ⟨l0, l1, l2, l3, l4, l5, _⟩ := sim_sl hs hi hL
  have e4 : (if f 4 = 0 then (1 : Int32) else 2) = F 69 i := by
    rcases l4 with ⟨a, b⟩ | ⟨a, b, _⟩
    · rw [a, b]; rfl
    · rw [a, b]; rfl
  unfold dn_F wrF_ rcF_ dv_
  rw [e4, l0, l5, rec_en]
theorem vo_eq {i : Nat} {x : Int32} (hx : F 65 i = x) : vo_F F i x = wrF_ F i (x, x, 3, 0) := by
  unfold vo_F wrF_ rcF_
  rw [if_pos hx, rec_en]
theorem dv_ok {i : Nat} {f : Nat → Int32} {w : Int32} (hs : sim_ A B T u h q S F) (hi : i < 12) (hL : S.2.1 i = some f) (hT : T w = f 0) (hlt : (f 0).toInt < w.toInt) (hnx : w.toInt < (S.1 1 0).toInt) : ((dv_ f w).2.2.1 = 1 ∨ (dv_ f w).2.2.1 = 2 ∨ (dv_ f w).2.2.1 = 3) ∧ sg2_ T (S.1 1 0) (dv_ f w) ∧ ∀ v ∈ S.2.2 i, ¬ v.2.1 = (dv_ f w).2.1 := by
  obtain ⟨l0, l1, l2, l3, l4, l5, l6, l7, l8, l9⟩ := sim_sl hs hi hL
  rw [← l0] at l7 l9
  refine ⟨?_, ⟨?_, hT, l7, ?_, fun _ => hlt, hnx⟩, l9⟩
  · show (if f 4 = 0 then (1 : Int32) else 2) = 1 ∨ (if f 4 = 0 then (1 : Int32) else 2) = 2 ∨ _
    split
    · exact Or.inl rfl
    · exact Or.inr (Or.inl rfl)
  · show ¬ (if f 4 = 0 then (1 : Int32) else 2) = 1 → f 5 = 0
    rcases l4 with ⟨_, b⟩ | ⟨_, _, b⟩
    · rw [if_pos b]; intro hh; exact absurd rfl hh
    · intro _; rw [l5, b]
  · show (f 0).toInt ≤ w.toInt
    omega
theorem vd_ok {i : Nat} {f : Nat → Int32} (hs : sim_ A B T u h q S F) (hi : i < 12) (hL : S.2.1 i = some f) : (((f 0, f 0, 3, 0) : vv_).2.2.1 = 1 ∨ ((f 0, f 0, 3, 0) : vv_).2.2.1 = 2 ∨ ((f 0, f 0, 3, 0) : vv_).2.2.1 = 3) ∧ sg2_ T (S.1 1 0) (f 0, f 0, 3, 0) ∧ ∀ v ∈ S.2.2 i, ¬ v.2.1 = ((f 0, f 0, 3, 0) : vv_).2.1 := by
  obtain ⟨l0, l1, l2, l3, l4, l5, l6, l7, l8, l9⟩ := sim_sl hs hi hL
  rw [← l0] at l6 l7 l8 l9
  exact ⟨Or.inr (Or.inr rfl), ⟨fun _ => rfl, l6, l7, Int.le_refl _, fun hh => absurd rfl hh, l8⟩, l9⟩
theorem sim_vl {i : Nat} (hs : sim_ A B T u h q S F) (hi : i < 12) : vl_ F i (S.2.2 i) := (hs.2.2.2.2.2.1 i hi).2.2.2.1
theorem up_iff {t : Nat} (hs : sim_ A B T u h q S F) (ht : t < 3) : S.1 (10 + t) 0 = 0 ↔ ¬ F 77 t = 0 := by
  rcases (hs.2.2.1 t ht).1 with ⟨a, b⟩ | ⟨a, b⟩
  · rw [a, b]; decide
  · rw [a, b]; decide
theorem lb_iff {i : Nat} {x : Int32} (hs : sim_ A B T u h q S F) (hi : i < 12) (hx : 1 ≤ x.toInt) : lb_ (S.2.1 i) x = 0 ↔ ¬ F 65 i = x := by
  have hl := hs.2.2.2.2.1 i hi
  cases hL : S.2.1 i with
  | none =>
    rw [hL] at hl
    have hl : F 65 i = 0 := hl
    rw [hl]
    constructor
    · intro _ e; rw [← e, i_0] at hx; omega
    · intro _; rfl
  | some f =>
    rw [hL] at hl
    have l0 := hl.1
    show (if f 0 = x then (1 : Int32) else 0) = 0 ↔ _
    rw [l0]
    split
    · rename_i e; rw [e]
      constructor
      · intro hh; exact absurd hh (by decide)
      · intro hh; exact absurd rfl hh
    · rename_i e
      exact ⟨fun _ => e, fun _ => rfl⟩
theorem ls_eq {i c : Nat} {f : Nat → Int32} (hs : sim_ A B T u h q S F) (hi : i < 12) (hL : S.2.1 i = some f) (hc : c < 4) : lsC_ S.1 f c = ls_ F i c := by
  obtain ⟨l0, l1, l2, l3, _⟩ := sim_sl hs hi hL
  obtain ⟨a1, a2, _⟩ := hs.2.1
  unfold lsC_ ls_
  rw [l0, l3, a1, a2]
  rcases (hs.2.2.2.2.2.2.1 c hc).2 with ⟨b1, b2, _⟩ | ⟨b1, b2, ⟨b3, _⟩, _⟩
  · rw [if_pos b1, b2, if_neg (fun hh => hh.1 rfl)]
  · have hn : ¬ F 83 c = 0 := by
      rcases b2 with ⟨_, e⟩ | ⟨_, e⟩ <;> rw [e] <;> decide
    rw [if_neg (by rw [b1]; decide), b3]
    by_cases e1 : S.1 (40 + c) 4 = F 65 i
    · rw [if_pos e1]
      by_cases e2 : S.1 0 5 - F 68 i < S.1 0 0
      · rw [if_pos e2, if_pos ⟨hn, e1, e2⟩]
      · rw [if_neg e2, if_neg (fun hh => e2 hh.2.2)]
    · rw [if_neg e1, if_neg (fun hh => e1 hh.2.1)]
abbrev rr_ (r r' : Int32) : Prop := (r = -2 ∧ (r' = 0 ∨ r' = 1)) ∨ (r = 1 ∧ r' = 2) ∨ (r = 2 ∧ r' = 3)
theorem vo_r0 {i : Nat} {x : Int32} (hs : sim_ A B T u h q S F) (hi : i < 12) (hx : F 65 i = x) : vo_r F i x = 0 ↔ plF_ S.1 (i / 4) (10 + i / 4) 0 = 0 := by
  unfold vo_r
  rw [vo_eq hx, wr_up (v := (x, x, 3, 0)) hs hi]
  split
  · rename_i e; rw [e]; decide
  · rename_i e; exact ⟨fun _ => e, fun _ => rfl⟩
theorem dn_r0 {i : Nat} {f : Nat → Int32} {w : Int32} (hs : sim_ A B T u h q S F) (hi : i < 12) (hL : S.2.1 i = some f) : dn_r F i w = 0 ↔ plF_ S.1 (i / 4) (10 + i / 4) 0 = 0 := by
  unfold dn_r
  rw [dn_eq hs hi hL, wr_up (v := dv_ f w) hs hi]
  split
  · rename_i e; rw [e]; decide
  · rename_i e; exact ⟨fun _ => e, fun _ => rfl⟩
theorem cu_sim {i : Nat} {f : Nat → Int32} (hs : sim_ A B T u h q S F) (hi : i < 12) (hq : q < 4000) (hL : S.2.1 i = some f) {K : Int32 → ss_ → Prop} (hK0 : ∀ r S1 r' F1, (∀ K', K' r' F1 → cl_ F i (pn_ F i) (on_ F (pn_ F i)) K') → rr_ r r' → sim_ A B T u (fun i => h i + 1) (q + 2) S1 F1 → kp_ S F S1 F1 → K r S1) : cu_ S i K := by
  obtain ⟨l0, l1, l2, l3, l4, l5, l6, l7, l8, l9⟩ := sim_sl hs hi hL
  have hok := hs.2.2.2.1
  have hp : pN_ f = pn_ F i := by unfold pN_ pn_; rw [l1]
  have hp12 : pn_ F i < 12 := (hok.1 i hi).2
  have ho4 : on_ F (pn_ F i) < 4 := (hok.2 _ hp12).2
  have h12 : ∀ (i0 : Nat) (i' : Nat), i' < 12 → (up_ h i0 (h i0 + 1)) i' ≤ h i' + 1 := fun i0 i' _ => by
    rw [up_at]; split
    · rename_i e; rw [e]; omega
    · omega
  unfold cu_
  rw [hL]
  simp only [cu1_]
  rw [hp, l0]
  have hup := up_iff (t := pn_ F i / 4) hs (by omega)
  by_cases h77 : S.1 (10 + pn_ F i / 4) 0 = 0
  · rw [if_pos h77]
    refine hK0 _ _ 0 F (fun K' hK => ?_) (Or.inl ⟨rfl, Or.inl rfl⟩) (sim_mono hs (Int.le_refl _) (fun _ _ => by omega) (by omega)) (kp_rfl)
    unfold cl_
    rw [if_neg (hup.mp h77)]
    exact hK
  · rw [if_neg h77]
    have h77' : F 77 (pn_ F i / 4) = 0 := Classical.byContradiction fun e => h77 (hup.mpr e)
    have hvp := sim_vl hs hp12
    cases hv : vwb_ (F 65 i) (S.2.2 (pn_ F i)) with
    | some v =>
      have hd := dc_some hvp hv
      obtain ⟨v1, v2, v3⟩ := vwb_some hv
      obtain ⟨g1, g2, g3, g4, g5, g6⟩ := (hs.2.2.2.2.2.1 _ hp12).2.2.2.2 v v1
      have hlt := g5 v2
      obtain ⟨d1, d2, d3⟩ := dv_ok (w := v.1) hs hi hL (by rw [g2, v3, l0]) (by rw [l0, ← v3]; exact hlt) g6
      have hs1 := sim_wr hs hi (by omega) d1 d2 d3
      have hdc : ¬ dc_ F (nI (pn_ F i)) (F 65 i) ≤ 0 := by
        rw [hd, Int32.le_iff_toInt_le, i_0]; omega
      have hdn : dn_F F i (dc_ F (nI (pn_ F i)) (F 65 i)) = wrF_ F i (dv_ f v.1) := by rw [hd]; exact dn_eq hs hi hL
      have hr0 := dn_r0 (w := v.1) hs hi hL
      have hs2 := sim_mono hs1 (Int.le_refl _) (h12 i) (show q + 1 ≤ q + 2 by omega)
      simp only [cu2_]
      by_cases hpl : plF_ S.1 (i / 4) (10 + i / 4) 0 = 0
      · rw [if_pos hpl]
        refine hK0 _ _ 0 _ (fun K' hK => ?_) (Or.inl ⟨rfl, Or.inl rfl⟩) (hs2) (wr_kp hi)
        unfold cl_
        rw [if_pos h77', if_neg hdc, hdn, hd, if_pos (hr0.mpr hpl)]
        exact hK
      · rw [if_neg hpl]
        refine hK0 _ _ 2 _ (fun K' hK => ?_) (Or.inr (Or.inl ⟨rfl, rfl⟩)) (hs2) (wr_kp hi)
        unfold cl_
        rw [if_pos h77', if_neg hdc, hdn, hd, if_neg (fun e => hpl (hr0.mp e))]
        exact hK
    | none =>
      have hd := dc_none hvp hv
      have hdc : dc_ F (nI (pn_ F i)) (F 65 i) ≤ 0 := by rw [hd]; decide
      have hlb := lb_iff (i := pn_ F i) (x := F 65 i) hs hp12 l7
      simp only [cu2_]
      rw [hp, l0]
      by_cases hb : lb_ (S.2.1 (pn_ F i)) (F 65 i) = 0
      · rw [if_pos hb]
        unfold cuf_
        rw [l0]
        obtain ⟨d1, d2, d3⟩ := vd_ok hs hi hL
        have hs1 := sim_wr hs hi (by omega) d1 d2 d3
        rw [l0] at hs1
        have hs2 := sim_mono hs1 (Int.le_refl _) (h12 i) (show q + 1 ≤ q + 2 by omega)
        have hr0 := vo_r0 hs hi (x := F 65 i) rfl
        have hve := vo_eq (F := F) (i := i) (x := F 65 i) rfl
        by_cases hpl : plF_ S.1 (i / 4) (10 + i / 4) 0 = 0
        · rw [if_pos hpl]
          refine hK0 _ _ 0 _ (fun K' hK => ?_) (Or.inl ⟨rfl, Or.inl rfl⟩) (hs2) (wr_kp hi)
          unfold cl_
          rw [if_pos h77', if_pos hdc, if_neg (hlb.mp hb), if_pos (hr0.mpr hpl), hve]
          exact hK
        · rw [if_neg hpl]
          refine hK0 _ _ 3 _ (fun K' hK => ?_) (Or.inr (Or.inr ⟨rfl, rfl⟩)) (hs2) (wr_kp hi)
          unfold cl_
          rw [if_pos h77', if_pos hdc, if_neg (hlb.mp hb), if_neg (fun e => hpl (hr0.mp e)), hve]
          exact hK
      · rw [if_neg hb]
        have hb' : F 65 (pn_ F i) = F 65 i := Classical.byContradiction fun e => hb (hlb.mpr e)
        cases hLp : S.2.1 (pn_ F i) with
        | none => rw [hLp] at hb; exact absurd rfl hb
        | some f2 =>
          obtain ⟨m0, m1, m2, m3, _⟩ := sim_sl hs hp12 hLp
          have hc2 : cN_ f2 = on_ F (pn_ F i) := by unfold cN_ on_; rw [m2]
          simp only [cu3_]
          rw [hc2, ls_eq hs hp12 hLp ho4]
          by_cases hls : ls_ F (pn_ F i) (on_ F (pn_ F i)) = 0
          · rw [if_pos hls]
            refine hK0 _ _ 1 F (fun K' hK => ?_) (Or.inl ⟨rfl, Or.inr rfl⟩) (sim_mono hs (Int.le_refl _) (fun _ _ => by omega) (by omega)) (kp_rfl)
            unfold cl_
            rw [if_pos h77', if_pos hdc, if_pos hb', if_pos hls]
            exact hK
          · rw [if_neg hls, hp, l0]
            obtain ⟨d1, d2, d3⟩ := vd_ok hs hp12 hLp
            have hs1 := sim_wr hs hp12 (by omega) d1 d2 d3
            rw [m0, hb'] at hs1
            have hs2 := sim_mono hs1 (Int.le_refl _) (h12 (pn_ F i)) (show q + 1 ≤ q + 2 by omega)
            have hr0 := vo_r0 hs hp12 (x := F 65 i) hb'
            have hve := vo_eq (F := F) (i := pn_ F i) (x := F 65 i) hb'
            by_cases hpl : plF_ S.1 (pn_ F i / 4) (10 + pn_ F i / 4) 0 = 0
            · rw [if_pos hpl]
              refine hK0 _ _ 0 _ (fun K' hK => ?_) (Or.inl ⟨rfl, Or.inl rfl⟩) (hs2) (wr_kp hp12)
              unfold cl_
              rw [if_pos h77', if_pos hdc, if_pos hb', if_neg hls, if_pos (hr0.mpr hpl), hve]
              exact hK
            · rw [if_neg hpl]
              have hr1 : ¬ vo_r F (pn_ F i) (F 65 i) = 0 := fun e => hpl (hr0.mp e)
              by_cases hpi : pn_ F i = i
              · rw [if_pos hpi]
                refine hK0 _ _ 3 _ (fun K' hK => ?_) (Or.inr (Or.inr ⟨rfl, rfl⟩)) (hs2) (wr_kp hp12)
                unfold cl_
                rw [if_pos h77', if_pos hdc, if_pos hb', if_neg hls, if_neg hr1, if_pos (by rw [hpi]), hve]
                exact hK
              · rw [if_neg hpi]
                have hpi' : ¬ nI (pn_ F i) = nI i := fun e => hpi ((nI_eq (by omega) (by omega)).mp e)
                have hL1 : (wr_ S (pn_ F i) (F 65 i, F 65 i, 3, 0)).2.1 i = some f := by rw [wr_lk (fun e => hpi e.symm)]; exact hL
                have hF1 : wrF_ F (pn_ F i) (F 65 i, F 65 i, 3, 0) 65 i = F 65 i := wrF_65 (fun e => hpi e.symm)
                unfold cuf_
                rw [l0]
                obtain ⟨d1, d2, d3⟩ := vd_ok hs1 hi hL1
                have hs3 := sim_wr hs1 hi (by omega) d1 d2 d3
                rw [l0] at hs3
                have hs4 := sim_mono hs3 (Int.le_refl _) (h' := fun i => h i + 1) (fun i' hi' => by
                  rw [up_at]; split
                  · rename_i e; rw [e, up_o _ _ _ _ (fun e => hpi e.symm)]; omega
                  · exact h12 _ _ hi') (show q + 1 + 1 ≤ q + 2 by omega)
                have hr2 := vo_r0 hs1 hi (x := F 65 i) hF1
                have hve2 := vo_eq (F := wrF_ F (pn_ F i) (F 65 i, F 65 i, 3, 0)) (i := i) (x := F 65 i) hF1
                have hkp := kp_trans (wr_kp (S := S) (F := F) (v := (F 65 i, F 65 i, 3, 0)) hp12) (wr_kp (v := (F 65 i, F 65 i, 3, 0)) hi)
                by_cases hpl2 : plF_ (wr_ S (pn_ F i) (F 65 i, F 65 i, 3, 0)).1 (i / 4) (10 + i / 4) 0 = 0
                · rw [if_pos hpl2]
                  refine hK0 _ _ 0 _ (fun K' hK => ?_) (Or.inl ⟨rfl, Or.inl rfl⟩) (hs4) (hkp)
                  unfold cl_
                  rw [if_pos h77', if_pos hdc, if_pos hb', if_neg hls, if_neg hr1, if_neg hpi', hve, if_pos (hr2.mpr hpl2), hve2]
                  exact hK
                · rw [if_neg hpl2]
                  refine hK0 _ _ 3 _ (fun K' hK => ?_) (Or.inr (Or.inr ⟨rfl, rfl⟩)) (hs4) (hkp)
                  unfold cl_
                  rw [if_pos h77', if_pos hdc, if_pos hb', if_neg hls, if_neg hr1, if_neg hpi', hve, if_neg (fun e => hpl2 (hr2.mp e)), hve2]
                  exact hK
end SM
