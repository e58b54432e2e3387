section SM
variable {A B : Nat → Nat → Int32} {T : Int32 → Int32} {u : Int} {h : Nat → Nat} {q : Nat} {S : ss_} {F : Nat → Nat → Int32}
theorem fof_sim {c i : Nat} {K : Int32 → ss_ → Prop} (hs : sim_ A B T u h q S F) (hc : c < 4) (hi : i < 12) (h2 : ¬ S.1 (40 + c) 2 = 0) (h3 : S.1 (40 + c) 3 = 1) (h10 : ¬ S.1 (40 + c) 10 = 0) (hw : ¬ F 87 (12 * c + i) = 0) (hif : ¬ i = fi_ F c)
    (hK : ∀ r S1 r' F1, (∀ K', K' r' F1 → fx_ F c i K') → ar_ F r r' F1 → sim_ A B T u h q S1 F1 → K r S1) : fof_ S c i K := by
  have hX := sim_x1 hs hc h2
  have h0 := (hs.2.2.2.2.2.2.1 c hc).1
  obtain ⟨x1, x2, ⟨y1, y2, y3⟩, ⟨z1, z2, z3, z4, z5, z6, z7⟩, ⟨v0, v1⟩, ⟨w0, w1, w2, w3, w4⟩⟩ := hX
  have hb9 : S.1 (40 + c) 10 = 1 ∧ bs_ (S.1 (40 + c) 9) (fb2_ F c) := by
    rcases v1 with ⟨a, _⟩ | ⟨a, b, _⟩
    · exact absurd a h10
    · exact ⟨a, b⟩
  have ef : fi_ (uf_ F 90 (12 * c + i) 1) c = fi_ F c := fi_row (uf_row _ _ _ _ _ (by omega))
  have hfi := fi_lt F c
  have hnx := nx_fn (uf_ F 90 (12 * c + i) 1) c 1
  have hnb : ∀ k, k < 12 → (nb_ (uf_ F 90 (12 * c + i) 1) c 1 k = true ↔ (¬ F 87 (12 * c + k) = 0 ∧ ¬ k = fi_ F c ∧ ¬ k = i ∧ F 90 (12 * c + k) = 0)) := fun k hk => by
    unfold nb_
    rw [ef, uf_row _ _ _ _ 87 (by omega), decide_eq_true_iff, if_neg (by decide), pos_iff (z1 k hk), nI_eq (by omega) (by omega)]
    by_cases e : k = i
    · subst e; rw [uf_s]
      exact ⟨fun q => absurd q.2.2 (by decide), fun q => absurd rfl q.2.2.1⟩
    · rw [uf_o _ _ _ _ _ _ (by omega)]
      exact ⟨fun q => ⟨q.1, q.2.1, e, q.2.2⟩, fun q => ⟨q.1, q.2.1, q.2.2.2⟩⟩
  have hb9' : bs_ (S.1 (40 + c) 9 ||| b1_ i) (fb2_ (uf_ F 90 (12 * c + i) 1) c) := by
    refine bs_ext (bs_or hb9.2 (bs_b1 hi)) (fun k hk => ?_)
    unfold fb2_
    rw [ef]
    by_cases e : k = i
    · subst e; rw [uf_s]; simp
    · rw [uf_o _ _ _ _ _ _ (by omega)]; simp [e]
  have hfw : ¬ F 87 (12 * c + fi_ F c) = 0 := by
    refine fi_w z4 (fun e => ?_)
    have := (bs_z z4).mp e i hi
    unfold wb_ at this
    simp [hw] at this
  unfold fof_
  rw [uf_s, uf_o _ (40 + c) 9 _ (40 + c) 6 (by omega)]
  have hiff := bs_iff hb9' z4
  by_cases hd : S.1 (40 + c) 9 ||| b1_ i = S.1 (40 + c) 6
  · rw [if_pos hd]
    have hall := hiff.mp hd
    refine hK 6 _ 6 (uf_ (uf_ F 90 (12 * c + i) 1) 83 c 0) (fun K' hK' => ?_) (Or.inr ⟨by decide, rfl, ?_⟩) ?_
    · unfold fx_
      rw [if_pos]
      · exact hK'
      · rw [nI_12 nx_le12, hnx]
        rcases fn_cases (nb_ (uf_ F 90 (12 * c + i) 1) c 1) with ⟨e, _⟩ | ⟨_, _, e⟩
        · exact e
        · exfalso
          obtain ⟨a1, a2, a3, a4⟩ := (hnb _ (fb_lt _)).mp e
          have := hall (fb_ (nb_ (uf_ F 90 (12 * c + i) 1) c 1)) (fb_lt _)
          unfold wb_ fb2_ at this
          rw [ef, uf_o _ _ _ _ _ _ (by omega), a4] at this
          simp [a1, a2] at this
    · rw [uf_o _ _ _ _ _ _ (by omega), uf_o _ _ _ _ _ _ (by omega)]
    · refine sim_close hs hc (fun n a => ?_) ?_ (fun n a => uf_row _ _ _ _ _ (by omega)) (fun n j a b e => by rw [uf_row _ _ _ _ _ (by omega)]) (fun n j a b e => uf_o _ _ _ _ _ _ (by omega))
      · rw [uf_row _ _ _ _ _ a]
      · rw [uf_o _ _ _ _ _ _ (by omega)]
  · rw [if_neg hd]
    have hex : ∃ k, k < 12 ∧ ¬ F 87 (12 * c + k) = 0 ∧ ¬ k = fi_ F c ∧ uf_ F 90 (12 * c + i) 1 90 (12 * c + k) = 0 := by
      refine Classical.byContradiction fun hno => hd (hiff.mpr fun k hk => ?_)
      unfold wb_ fb2_
      rw [ef]
      by_cases e : k = fi_ F c
      · subst e; simp [hfw]
      · by_cases e2 : F 87 (12 * c + k) = 0
        · have e3 : uf_ F 90 (12 * c + i) 1 90 (12 * c + k) = 0 := by
            have hki : k ≠ i := fun e4 => by rw [e4] at e2; exact hw e2
            rw [uf_o _ _ _ _ _ _ (by omega)]
            exact Classical.byContradiction fun e4 => v0 k hk e4 e2
          simp [e, e2, e3]
        · have e3 : ¬ uf_ F 90 (12 * c + i) 1 90 (12 * c + k) = 0 := fun e3 => hno ⟨k, hk, e2, e, e3⟩
          simp [e, e2, e3]
    obtain ⟨k, k1, k2, k3, k4⟩ := hex
    refine hK 5 _ 5 (uf_ F 90 (12 * c + i) 1) (fun K' hK' => ?_) (Or.inr ⟨by decide, rfl, ?_⟩) ?_
    · unfold fx_
      rw [if_neg]
      · exact hK'
      · rw [nI_12 nx_le12, hnx]
        rcases fn_cases (nb_ (uf_ F 90 (12 * c + i) 1) c 1) with ⟨_, e⟩ | ⟨e, _⟩
        · have hki : k ≠ i := fun e4 => by rw [e4, uf_s] at k4; exact absurd k4 (by decide)
          have := (hnb k k1).mpr ⟨k2, k3, hki, by rw [uf_o _ _ _ _ _ _ (by omega)] at k4; exact k4⟩
          rw [e k k1] at this; cases this
        · omega
    · rw [uf_o _ _ _ _ _ _ (by omega)]
    · refine sim_x hs hc (fun n a b => uf_row _ _ _ _ _ a) (fun n hn => uf_row _ _ _ _ _ (by omega)) (fun n j a b e => by rw [uf_row _ _ _ _ _ (by omega)]) (fun n j a b e => uf_o _ _ _ _ _ _ (by omega)) ⟨?_, Or.inr ⟨?_, ?_, ⟨?_, ?_, ?_⟩, ⟨fun j hj => ?_, fun j hj => ?_, fun j hj => ?_, ?_, ?_, ?_, fun j hj => ?_⟩, ⟨fun j hj => ?_, ?_⟩, ⟨?_, ?_, ?_, ?_, ?_⟩⟩⟩
      · rw [uf_o _ _ _ _ _ _ (by omega)]; exact h0
      · rw [uf_o _ _ _ _ _ _ (by omega)]; exact x1
      · rw [uf_o _ _ _ _ _ _ (by omega), uf_o _ _ _ _ _ _ (by omega)]; exact x2
      · rw [uf_o _ _ _ _ _ _ (by omega), uf_o _ _ _ _ _ _ (by omega)]; exact y1
      · rw [uf_o _ _ _ _ _ _ (by omega), uf_o _ _ _ _ _ _ (by omega)]; exact y2
      · rw [uf_o _ _ _ _ _ _ (by omega), uf_o _ _ _ _ _ _ (by omega)]; exact y3
      · rw [uf_o _ _ _ _ _ _ (by omega)]; exact z1 j hj
      · rw [uf_o _ _ _ _ _ _ (by omega), uf_o _ _ _ _ _ _ (by omega), uf_o _ _ _ _ _ _ (by omega)]; exact z2 j hj
      · rw [uf_o _ _ _ _ _ _ (by omega), uf_o _ _ _ _ _ _ (by omega)]; exact z3 j hj
      · rw [uf_o _ _ _ _ _ _ (by omega)]; unfold wb_; rw [uf_row _ _ _ _ _ (by omega)]; exact z4
      · rw [uf_o _ _ _ _ _ _ (by omega)]; unfold wv_; rw [uf_row _ _ _ _ _ (by omega)]; exact z5
      · rw [uf_o _ _ _ _ _ _ (by omega)]; unfold pb_; rw [uf_row _ _ _ _ _ (by omega)]; exact z6
      · rw [uf_o _ _ _ _ _ _ (by omega), uf_o _ _ _ _ _ _ (by omega)]; exact z7 j hj
      · by_cases e : j = i
        · subst e; rw [uf_o _ _ _ _ 87 _ (by omega)]; exact fun _ => hw
        · rw [uf_o _ _ _ _ _ _ (by omega), uf_o _ _ _ _ _ _ (by omega)]; exact v0 j hj
      · refine Or.inr ⟨by rw [uf_o _ _ _ _ _ _ (by omega)]; exact hb9.1, by rw [uf_s]; exact hb9', k, k1, by rw [uf_o _ _ _ _ _ _ (by omega)]; exact k2, by rw [ef]; exact k3, k4⟩
      · rw [uf_o _ _ _ _ _ _ (by omega), h3]; intro e; exact absurd e (by decide)
      · rw [uf_o _ _ _ _ _ _ (by omega)]; exact w1
      · rw [uf_o _ _ _ _ _ _ (by omega)]; exact w2
      · rw [uf_o _ _ _ _ _ _ (by omega)]; exact w3
      · rw [uf_o _ _ _ _ _ _ (by omega), uf_o _ _ _ _ _ _ (by omega)]; exact w4
theorem nx_fo {c : Nat} (hX : sX1_ T (S.1 1 0) S.1 F c) (h10 : ¬ S.1 (40 + c) 10 = 0) : nx_ F c 1 < 12 ∧ le_ (S.1 (40 + c) 6 &&& (S.1 (40 + c) 9 ^^^ (-1))) = nx_ F c 1 ∧ ¬ F 87 (12 * c + nx_ F c 1) = 0 ∧ ¬ nx_ F c 1 = fi_ F c := by
  obtain ⟨x1, x2, ⟨y1, y2, y3⟩, ⟨z1, z2, z3, z4, z5, z6, z7⟩, ⟨v0, v1⟩, ⟨w0, w1, w2, w3, w4⟩⟩ := hX
  have hfi := fi_lt F c
  have hnb : ∀ k, k < 12 → (nb_ F c 1 k = true ↔ (¬ F 87 (12 * c + k) = 0 ∧ ¬ k = fi_ F c ∧ F 90 (12 * c + k) = 0)) := fun k hk => by
    unfold nb_
    rw [decide_eq_true_iff, if_neg (by decide), pos_iff (z1 k hk), nI_eq (by omega) (by omega)]
  rcases v1 with ⟨a, _⟩ | ⟨a, b, k, k1, k2, k3, k4⟩
  · exact absurd a h10
  · have hbs := bs_andn z4 b
    have hk := (hnb k k1).mpr ⟨k2, k3, k4⟩
    have hext : ∀ k, k < 12 → (wb_ F c k && !fb2_ F c k) = nb_ F c 1 k := fun k hk => by
      have := hnb k hk
      cases e : nb_ F c 1 k with
      | true =>
        obtain ⟨p1, p2, p3⟩ := this.mp e
        unfold wb_ fb2_
        simp [p1, p2, p3]
      | false =>
        have hn : ¬ (¬ F 87 (12 * c + k) = 0 ∧ ¬ k = fi_ F c ∧ F 90 (12 * c + k) = 0) := fun hh => by
          rw [this.mpr hh] at e; cases e
        unfold wb_ fb2_
        by_cases p1 : F 87 (12 * c + k) = 0
        · simp [p1]
        · by_cases p2 : k = fi_ F c
          · simp [p2]
          · have p3 : ¬ F 90 (12 * c + k) = 0 := fun p3 => hn ⟨p1, p2, p3⟩
            simp [p3]
    rw [le_fb hbs, nx_fn, fb_ext hext]
    rcases fn_cases (nb_ F c 1) with ⟨_, e⟩ | ⟨e1, e2, e3⟩
    · rw [e k k1] at hk; cases hk
    · have := (hnb _ (fb_lt _)).mp e3
      refine ⟨e1, e2.symm, by rw [e2]; exact this.1, by rw [e2]; exact this.2.1⟩
theorem fo_sim {c : Nat} {K : Int32 → ss_ → Prop} (hs : sim_ A B T u h q S F) (hc : c < 4) (hq : q < 4000) (h2 : ¬ S.1 (40 + c) 2 = 0) (h3 : S.1 (40 + c) 3 = 1) (h10 : ¬ S.1 (40 + c) 10 = 0) (h5 : ¬ S.1 (40 + c) 5 = 0)
    (hK : ∀ r S1 r' F1, (∀ K', K' r' F1 → fo_ F c K') → ar_ F r r' F1 → sim_ A B T u (fun i => h i + 1) (q + 2) S1 F1 → K r S1) : foC_ S c K := by
  have hX := sim_x1 hs hc h2
  have y1 : F 84 c = S.1 (40 + c) 4 := hX.2.2.1.1
  have y2 : F 85 c = S.1 (40 + c) 5 := hX.2.2.1.2.1
  have hge := hX.2.2.2.2.2.2.2.1
  obtain ⟨hn12, hle, hnw, hnf⟩ := nx_fo hX h10
  unfold foC_
  rw [hle]
  have hup := up_iff (t := nx_ F c 1 / 4) hs (by omega)
  have hm : sim_ A B T u (fun i => h i + 1) (q + 2) S F := sim_mono hs (Int.le_refl _) (fun _ _ => by omega) (by omega)
  unfold fo1_
  by_cases h77 : S.1 (10 + nx_ F c 1 / 4) 0 = 0
  · rw [if_pos h77]
    refine hK _ _ 0 (uf_ F 60 1 3) (fun K' hK' => ?_) (Or.inl ⟨rfl, rfl, uf_s _ _ _ _⟩) (sim_err hm)
    unfold fo_
    rw [if_neg (hup.mp h77)]
    exact hK'
  · rw [if_neg h77]
    have h77' : F 77 (nx_ F c 1 / 4) = 0 := Classical.byContradiction fun e => h77 (hup.mpr e)
    have hlb := lb_iff (x := S.1 (40 + c) 4) hs hn12 hge
    by_cases hb : lb_ (S.2.1 (nx_ F c 1)) (S.1 (40 + c) 4) = 0
    · rw [if_pos hb]
      refine fof_sim hm hc hn12 h2 h3 h10 hnw hnf (fun r S1 r' F1 a b d => hK r S1 r' F1 (fun K' hK' => ?_) b d)
      unfold fo_
      rw [if_pos h77', if_neg (by rw [y1]; exact hlb.mp hb)]
      generalize fx_ F c (nx_ F c 1) = W at a ⊢
      exact a K' hK'
    · rw [if_neg hb]
      have hb' : F 65 (nx_ F c 1) = F 84 c := by
        rw [y1]; exact Classical.byContradiction fun e => hb (hlb.mpr e)
      cases hL : S.2.1 (nx_ F c 1) with
      | none => rw [hL] at hb; exact absurd rfl hb
      | some f =>
        simp only [fo2_]
        have l0 := (sim_sl hs hn12 hL).1
        have hf0 : f 0 = S.1 (40 + c) 4 := by rw [l0, hb', y1]
        have hcm : (S.1 (40 + c) 4).toInt < (S.1 (40 + c) 5).toInt ∧ (S.1 (40 + c) 5).toInt < (S.1 1 0).toInt ∧ T (S.1 (40 + c) 5) = S.1 (40 + c) 4 := by
          rcases hX.2.2.2.2.2.2.2.2.2 with e | e
          · exact absurd e h5
          · exact e
        obtain ⟨d1, d2, d3⟩ := dv_ok (w := S.1 (40 + c) 5) hs hn12 hL (by rw [hcm.2.2, hf0]) (by rw [hf0]; exact hcm.1) hcm.2.1
        have hs1 := sim_wr hs hn12 (by omega) d1 d2 d3
        have hdn : dn_F F (nx_ F c 1) (F 85 c) = wrF_ F (nx_ F c 1) (dv_ f (S.1 (40 + c) 5)) := by rw [y2]; exact dn_eq hs hn12 hL
        have hr0 := dn_r0 (w := F 85 c) hs hn12 hL
        have hkp := wr_kp (S := S) (F := F) (v := dv_ f (S.1 (40 + c) 5)) hn12
        have hm1 : sim_ A B T u (fun i => h i + 1) (q + 2) (wr_ S (nx_ F c 1) (dv_ f (S.1 (40 + c) 5))) (wrF_ F (nx_ F c 1) (dv_ f (S.1 (40 + c) 5))) := sim_mono hs1 (Int.le_refl _) (fun i _ => by
          rw [up_at]; split
          · rename_i e; rw [e]; omega
          · omega) (by omega)
        have e40 := hkp.1 (40 + c) (by omega)
        have e87 := hkp.2.1 87 (by omega)
        by_cases hpl : plF_ S.1 (nx_ F c 1 / 4) (10 + nx_ F c 1 / 4) 0 = 0
        · rw [if_pos hpl]
          refine hK _ _ 0 (uf_ (dn_F F (nx_ F c 1) (F 85 c)) 60 1 3) (fun K' hK' => ?_) (Or.inl ⟨rfl, rfl, uf_s _ _ _ _⟩) (sim_err (by rw [hdn]; exact hm1))
          unfold fo_
          rw [if_pos h77', if_pos hb', if_pos (hr0.mpr hpl)]
          exact hK'
        · rw [if_neg hpl]
          refine fof_sim hm1 hc hn12 (by rw [e40]; exact h2) (by rw [e40]; exact h3) (by rw [e40]; exact h10) (by rw [e87]; exact hnw) (by rw [fi_row e87]; exact hnf) (fun r S1 r' F1 a b d => hK r S1 r' F1 (fun K' hK' => ?_) (b.imp id (fun z => ⟨z.1, z.2.1, z.2.2.trans hkp.2.2⟩)) d)
          unfold fo_
          rw [if_pos h77', if_pos hb', if_neg (fun e => hpl (hr0.mp e)), hdn]
          generalize fx_ (wrF_ F (nx_ F c 1) (dv_ f (S.1 (40 + c) 5))) c (nx_ F c 1) = W at a ⊢
          exact a K' hK'
end SM
