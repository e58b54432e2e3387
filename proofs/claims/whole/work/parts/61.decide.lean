section SM
variable {A B : Nat → Nat → Int32} {T : Int32 → Int32} {u : Int} {h : Nat → Nat} {q : Nat} {S : ss_} {F : Nat → Nat → Int32}
theorem fi_row {F' : Nat → Nat → Int32} {c : Nat} (e : F' 87 = F 87) : fi_ F' c = fi_ F c := by
  rw [fi_fb, fi_fb]; unfold wb_; rw [e]
theorem nI_12 {n : Nat} (hn : n ≤ 12) : nI n = 12 ↔ n = 12 := by
  have : (12 : Int32) = nI 12 := by decide
  rw [this, nI_eq (by omega) (by decide)]
theorem nx_le12 {c : Nat} {b : Int32} : nx_ F c b ≤ 12 := by
  rw [nx_fn]
  rcases fn_cases (nb_ F c b) with ⟨a, _⟩ | ⟨a, _⟩ <;> omega
theorem pos_iff {c i : Nat} (z1 : F 87 (12 * c + i) = 0 ∨ F 87 (12 * c + i) = 1 ∨ F 87 (12 * c + i) = 2) : ¬ F 87 (12 * c + i) ≤ 0 ↔ ¬ F 87 (12 * c + i) = 0 := by
  rcases z1 with e | e | e <;> rw [e] <;> decide
theorem fi_w {c : Nat} {x : Int32} (hb : bs_ x (wb_ F c)) (hx : ¬ x = 0) : ¬ F 87 (12 * c + fi_ F c) = 0 := by
  have : ¬ ∀ k, k < 12 → wb_ F c k = false := fun e => hx ((bs_z hb).mpr e)
  have ⟨k, hk⟩ : ∃ k, ¬ (k < 12 → wb_ F c k = false) := Classical.not_forall.mp this
  have hk12 : k < 12 := Classical.byContradiction fun e => hk (fun e2 => absurd e2 e)
  have hkt : wb_ F c k = true := by
    cases e : wb_ F c k with
    | true => rfl
    | false => exact absurd (fun _ => e) hk
  have := fb_at hk12 hkt
  rw [← fi_fb] at this
  exact of_decide_eq_true this
theorem dcf_sim {c : Nat} {K : Int32 → ss_ → Prop} (hs : sim_ A B T u h q S F) (hc : c < 4) (h2 : ¬ S.1 (40 + c) 2 = 0) (h3 : S.1 (40 + c) 3 = 1) (h6 : ¬ S.1 (40 + c) 6 = 0) (h10 : S.1 (40 + c) 10 = 0) (h5 : ¬ S.1 (40 + c) 5 = 0)
    (hK : ∀ r S1 r' F1, (∀ K', K' r' F1 → dx_ F c K') → ar_ F r r' F1 → sim_ A B T u h q S1 F1 → K r S1) : dcf_ S c K := by
  have hX := sim_x1 hs hc h2
  have h0 := (hs.2.2.2.2.2.2.1 c hc).1
  obtain ⟨x1, x2, ⟨y1, y2, y3⟩, ⟨z1, z2, z3, z4, z5, z6, z7⟩, ⟨v0, v1⟩, ⟨w0, w1, w2, w3, w4⟩⟩ := hX
  have hfw := fi_w z4 h6
  have hle : le_ (S.1 (40 + c) 6) = fi_ F c := by rw [le_fb z4, fi_fb]
  have hfi := fi_lt F c
  have v90 : ∀ i, i < 12 → F 90 (12 * c + i) = 0 := by
    rcases v1 with ⟨_, _, d⟩ | ⟨a, _⟩
    · exact d
    · rw [h10] at a; exact absurd a (by decide)
  have ef : fi_ (uf_ F 86 c 1) c = fi_ F c := fi_row (uf_row _ _ _ _ _ (by omega))
  have hnx := nx_fn (uf_ F 86 c 1) c 1
  have hnb : ∀ k, k < 12 → (nb_ (uf_ F 86 c 1) c 1 k = true ↔ (¬ F 87 (12 * c + k) = 0 ∧ ¬ k = fi_ F c)) := fun k hk => by
    unfold nb_
    rw [ef, uf_row _ _ _ _ 87 (by omega), uf_row _ _ _ _ 90 (by omega), decide_eq_true_iff, if_neg (by decide), pos_iff (z1 k hk), nI_eq (by omega) (by omega)]
    exact ⟨fun q => ⟨q.1, q.2.1⟩, fun q => ⟨q.1, q.2, v90 k hk⟩⟩
  unfold dcf_
  have e6 : (uf_ S.1 (40 + c) 10 1) (40 + c) 6 = S.1 (40 + c) 6 := uf_o _ _ _ _ _ _ (by omega)
  rw [e6, hle, uf_s, uf_o _ (40 + c) 9 _ (40 + c) 6 (by omega), e6]
  have hiff := bs_iff (bs_b1 hfi) z4
  by_cases hd : b1_ (fi_ F c) = S.1 (40 + c) 6
  · rw [if_pos hd]
    have hall := hiff.mp hd
    refine hK 4 _ 4 (uf_ (uf_ F 86 c 1) 83 c 0) (fun K' hK' => ?_) (Or.inr ⟨by decide, rfl, ?_⟩) ?_
    · unfold dx_
      rw [if_pos]
      · exact hK'
      · rw [nI_12 nx_le12, hnx]
        rcases fn_cases (nb_ (uf_ F 86 c 1) c 1) with ⟨e, _⟩ | ⟨_, _, e⟩
        · exact e
        · exfalso
          obtain ⟨a, b⟩ := (hnb _ (fb_lt _)).mp e
          have := hall (fb_ (nb_ (uf_ F 86 c 1) c 1)) (fb_lt _)
          unfold wb_ at this
          simp only [b, a, decide_false, not_false_eq_true, decide_true] at this
          cases this
    · rw [uf_o _ _ _ _ _ _ (by omega), uf_o _ _ _ _ _ _ (by omega)]
    · refine sim_close hs hc (fun n a => ?_) ?_ (fun n a => uf_row _ _ _ _ _ (by omega)) (fun n j a b e => uf_o _ _ _ _ _ _ (by omega)) (fun n j a b e => by rw [uf_row _ _ _ _ _ (by omega)])
      · rw [uf_row _ _ _ _ _ a, uf_row _ _ _ _ _ a]
      · rw [uf_o _ _ _ _ _ _ (by omega), uf_o _ _ _ _ _ _ (by omega)]
  · rw [if_neg hd]
    have hex : ∃ k, k < 12 ∧ ¬ F 87 (12 * c + k) = 0 ∧ ¬ k = fi_ F c := by
      refine Classical.byContradiction fun hno => hd (hiff.mpr fun k hk => ?_)
      unfold wb_
      by_cases e : k = fi_ F c
      · rw [e]; simp [hfw]
      · have : F 87 (12 * c + k) = 0 := Classical.byContradiction fun e2 => hno ⟨k, hk, e2, e⟩
        simp [e, this]
    obtain ⟨k, k1, k2, k3⟩ := hex
    refine hK 3 _ 3 (uf_ F 86 c 1) (fun K' hK' => ?_) (Or.inr ⟨by decide, rfl, ?_⟩) ?_
    · unfold dx_
      rw [if_neg]
      · exact hK'
      · rw [nI_12 nx_le12, hnx]
        rcases fn_cases (nb_ (uf_ F 86 c 1) c 1) with ⟨_, e⟩ | ⟨e, _⟩
        · have := (hnb k k1).mpr ⟨k2, k3⟩
          rw [e k k1] at this; cases this
        · omega
    · rw [uf_o _ _ _ _ _ _ (by omega)]
    · refine sim_x hs hc (fun n a b => by rw [uf_row _ _ _ _ _ a, uf_row _ _ _ _ _ a]) (fun n hn => uf_row _ _ _ _ _ (by omega)) (fun n j a b e => uf_o _ _ _ _ _ _ (by omega)) (fun n j a b e => by rw [uf_row _ _ _ _ _ (by omega)]) ⟨?_, Or.inr ⟨?_, ?_, ⟨?_, ?_, ?_⟩, ⟨fun j hj => ?_, fun j hj => ?_, fun j hj => ?_, ?_, ?_, ?_, fun j hj => ?_⟩, ⟨fun j hj => ?_, ?_⟩, ⟨?_, ?_, ?_, ?_, ?_⟩⟩⟩
      · rw [uf_o _ _ _ _ _ _ (by omega), uf_o _ _ _ _ _ _ (by omega)]; exact h0
      · rw [uf_o _ _ _ _ _ _ (by omega), uf_o _ _ _ _ _ _ (by omega)]; exact x1
      · rw [uf_o _ _ _ _ _ _ (by omega), uf_o _ _ _ _ _ _ (by omega), uf_o _ _ _ _ _ _ (by omega)]; exact x2
      · rw [uf_o _ _ _ _ _ _ (by omega), uf_o _ _ _ _ _ _ (by omega), uf_o _ _ _ _ _ _ (by omega)]; exact y1
      · rw [uf_o _ _ _ _ _ _ (by omega), uf_o _ _ _ _ _ _ (by omega), uf_o _ _ _ _ _ _ (by omega)]; exact y2
      · rw [uf_o _ (40 + c) 9 _ _ _ (by omega), uf_s, uf_s]; exact Or.inr ⟨rfl, rfl⟩
      · rw [uf_o _ _ _ _ _ _ (by omega)]; exact z1 j hj
      · rw [uf_o _ _ _ _ _ _ (by omega), uf_o _ _ _ _ _ _ (by omega), uf_o _ _ _ _ _ _ (by omega), uf_o _ _ _ _ _ _ (by omega)]; exact z2 j hj
      · rw [uf_o _ _ _ _ _ _ (by omega), uf_o _ _ _ _ _ _ (by omega)]; exact z3 j hj
      · rw [uf_o _ _ _ _ _ _ (by omega), uf_o _ _ _ _ _ _ (by omega)]; unfold wb_; rw [uf_row _ _ _ _ _ (by omega)]; exact z4
      · rw [uf_o _ _ _ _ _ _ (by omega), uf_o _ _ _ _ _ _ (by omega)]; unfold wv_; rw [uf_row _ _ _ _ _ (by omega)]; exact z5
      · rw [uf_o _ _ _ _ _ _ (by omega), uf_o _ _ _ _ _ _ (by omega)]; unfold pb_; rw [uf_row _ _ _ _ _ (by omega)]; exact z6
      · rw [uf_o _ _ _ _ _ _ (by omega), uf_o _ _ _ _ _ _ (by omega)]; exact z7 j hj
      · rw [uf_o _ _ _ _ _ _ (by omega), uf_o _ _ _ _ _ _ (by omega)]; exact v0 j hj
      · refine Or.inr ⟨by rw [uf_o _ _ _ _ _ _ (by omega), uf_s], ?_, k, k1, by rw [uf_o _ _ _ _ _ _ (by omega)]; exact k2, by rw [ef]; exact k3, by rw [uf_o _ _ _ _ _ _ (by omega)]; exact v90 k k1⟩
        rw [uf_s]
        refine bs_ext (bs_b1 hfi) (fun j hj => ?_)
        unfold fb2_
        rw [ef, uf_o _ _ _ _ _ _ (by omega), v90 j hj]
        simp
      · rw [uf_o _ _ _ _ _ _ (by omega), uf_o _ _ _ _ _ _ (by omega), h3]; intro e; exact absurd e (by decide)
      · rw [uf_o _ _ _ _ _ _ (by omega), uf_o _ _ _ _ _ _ (by omega)]; exact w1
      · rw [uf_o _ _ _ _ _ _ (by omega), uf_o _ _ _ _ _ _ (by omega)]; exact w2
      · rw [uf_o _ _ _ _ _ _ (by omega), uf_o _ _ _ _ _ _ (by omega)]; exact w3
      · rw [uf_o _ _ _ _ _ _ (by omega), uf_o _ _ _ _ _ _ (by omega), uf_o _ _ _ _ _ _ (by omega), uf_o _ _ _ _ _ _ (by omega)]; exact w4
theorem dc_sim {c : Nat} {K : Int32 → ss_ → Prop} (hs : sim_ A B T u h q S F) (hc : c < 4) (hq : q < 4000) (h2 : ¬ S.1 (40 + c) 2 = 0) (h3 : S.1 (40 + c) 3 = 1) (h6 : ¬ S.1 (40 + c) 6 = 0) (h10 : S.1 (40 + c) 10 = 0) (h5 : ¬ S.1 (40 + c) 5 = 0)
    (hK : ∀ r S1 r' F1, (∀ K', K' r' F1 → de_ F c K') → ar_ F r r' F1 → sim_ A B T u (fun i => h i + 1) (q + 2) S1 F1 → K r S1) : dcC_ S c K := by
  have hX := sim_x1 hs hc h2
  have y1 : F 84 c = S.1 (40 + c) 4 := hX.2.2.1.1
  have y2 : F 85 c = S.1 (40 + c) 5 := hX.2.2.1.2.1
  have hge := hX.2.2.2.2.2.2.2.1
  have hle : le_ (S.1 (40 + c) 6) = fi_ F c := by rw [le_fb hX.2.2.2.1.2.2.2.1, fi_fb]
  have hfi := fi_lt F c
  have hup := up_iff (t := fi_ F c / 4) hs (by omega)
  have hm : sim_ A B T u (fun i => h i + 1) (q + 2) S F := sim_mono hs (Int.le_refl _) (fun _ _ => by omega) (by omega)
  unfold dcC_ dc0_
  rw [hle]
  by_cases h77 : S.1 (10 + fi_ F c / 4) 0 = 0
  · rw [if_pos h77]
    refine hK _ _ 0 (uf_ F 60 1 3) (fun K' hK' => ?_) (Or.inl ⟨rfl, rfl, uf_s _ _ _ _⟩) (sim_err hm)
    unfold de_
    rw [if_neg (hup.mp h77)]
    exact hK'
  · rw [if_neg h77]
    have h77' : F 77 (fi_ F c / 4) = 0 := Classical.byContradiction fun e => h77 (hup.mpr e)
    have hvl := sim_vl hs hfi
    cases hv : vwb_ (S.1 (40 + c) 4) (S.2.2 (fi_ F c)) with
    | some v =>
      show dcf_ S c K
      have hd := dc_some hvl hv
      obtain ⟨v1, v2, v3⟩ := vwb_some hv
      have hg := (hs.2.2.2.2.2.1 _ hfi).2.2.2.2 v v1
      have hlt := hg.2.2.2.1
      have hge1 := hg.2.2.1
      have hdc : ¬ dc_ F (nI (fi_ F c)) (F 84 c) = 0 := by
        rw [y1, hd]; intro e; rw [e, i_0] at hlt; omega
      refine dcf_sim hs hc h2 h3 h6 h10 h5 (fun r S1 r' F1 a b d => hK r S1 r' F1 (fun K' hK' => ?_) b (sim_mono d (Int.le_refl _) (fun _ _ => by omega) (by omega)))
      unfold de_
      rw [if_pos h77', if_neg hdc]
      generalize dx_ F c = W at a ⊢
      exact a K' hK'
    | none =>
      have hd := dc_none hvl hv
      have hdc : dc_ F (nI (fi_ F c)) (F 84 c) = 0 := by rw [y1]; exact hd
      have hlb := lb_iff (x := S.1 (40 + c) 4) hs hfi hge
      simp only [dc1_]
      by_cases hb : lb_ (S.2.1 (fi_ F c)) (S.1 (40 + c) 4) = 0
      · rw [if_pos hb]
        refine hK _ _ 0 (uf_ F 83 c 0) (fun K' hK' => ?_) (Or.inr ⟨by decide, rfl, by rw [uf_o _ _ _ _ _ _ (by omega)]⟩) (sim_close0 hm hc)
        unfold de_
        rw [if_pos h77', if_pos hdc, if_neg (by rw [y1]; exact hlb.mp hb)]
        exact hK'
      · rw [if_neg hb]
        have hb' : F 65 (fi_ F c) = F 84 c := by
          rw [y1]; exact Classical.byContradiction fun e => hb (hlb.mpr e)
        cases hL : S.2.1 (fi_ F c) with
        | none => rw [hL] at hb; exact absurd rfl hb
        | some f =>
          simp only [dc2_]
          have l0 := (sim_sl hs hfi hL).1
          have hf0 : f 0 = S.1 (40 + c) 4 := by rw [l0, hb', y1]
          have hcm : (S.1 (40 + c) 4).toInt < (S.1 (40 + c) 5).toInt ∧ (S.1 (40 + c) 5).toInt < (S.1 1 0).toInt ∧ T (S.1 (40 + c) 5) = S.1 (40 + c) 4 := by
            rcases hX.2.2.2.2.2.2.2.2.2 with e | e
            · exact absurd e h5
            · exact e
          obtain ⟨d1, d2, d3⟩ := dv_ok (w := S.1 (40 + c) 5) hs hfi hL (by rw [hcm.2.2, hf0]) (by rw [hf0]; exact hcm.1) hcm.2.1
          have hs1 := sim_wr hs hfi (by omega) d1 d2 d3
          have hdn : dn_F F (fi_ F c) (F 85 c) = wrF_ F (fi_ F c) (dv_ f (S.1 (40 + c) 5)) := by rw [y2]; exact dn_eq hs hfi hL
          have hr0 := dn_r0 (w := F 85 c) hs hfi hL
          have hkp := wr_kp (S := S) (F := F) (v := dv_ f (S.1 (40 + c) 5)) hfi
          have hm1 : sim_ A B T u (fun i => h i + 1) (q + 2) (wr_ S (fi_ F c) (dv_ f (S.1 (40 + c) 5))) (wrF_ F (fi_ F c) (dv_ f (S.1 (40 + c) 5))) := sim_mono hs1 (Int.le_refl _) (fun i _ => by
            rw [up_at]; split
            · rename_i e; rw [e]; omega
            · omega) (by omega)
          have e40 := hkp.1 (40 + c) (by omega)
          by_cases hpl : plF_ S.1 (fi_ F c / 4) (10 + fi_ F c / 4) 0 = 0
          · rw [if_pos hpl]
            refine hK _ _ 0 (uf_ (dn_F F (fi_ F c) (F 85 c)) 60 1 3) (fun K' hK' => ?_) (Or.inl ⟨rfl, rfl, uf_s _ _ _ _⟩) (sim_err (by rw [hdn]; exact hm1))
            unfold de_
            rw [if_pos h77', if_pos hdc, if_pos hb', if_pos (hr0.mpr hpl)]
            exact hK'
          · rw [if_neg hpl]
            refine dcf_sim hm1 hc (by rw [e40]; exact h2) (by rw [e40]; exact h3) (by rw [e40]; exact h6) (by rw [e40]; exact h10) (by rw [e40]; exact h5) (fun r S1 r' F1 a b d => hK r S1 r' F1 (fun K' hK' => ?_) (b.imp id (fun z => ⟨z.1, z.2.1, z.2.2.trans hkp.2.2⟩)) d)
            unfold de_
            rw [if_pos h77', if_pos hdc, if_pos hb', if_neg (fun e => hpl (hr0.mp e)), hdn]
            generalize dx_ (wrF_ F (fi_ F c) (dv_ f (S.1 (40 + c) 5))) c = W at a ⊢
            exact a K' hK'
end SM
