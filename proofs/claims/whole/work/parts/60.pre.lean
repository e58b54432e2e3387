section SM
variable {A B : Nat → Nat → Int32} {T : Int32 → Int32} {u : Int} {h : Nat → Nat} {q : Nat} {S : ss_} {F : Nat → Nat → Int32}
theorem sim_pwf {c i : Nat} (hs : sim_ A B T u h q S F) (hc : c < 4) (hi : i < 12) (h2 : ¬ S.1 (40 + c) 2 = 0) (h3 : S.1 (40 + c) 3 = 1) (hw : ¬ F 87 (12 * c + i) = 0) : sim_ A B T u h q (uf_ S.1 (40 + c) 8 (S.1 (40 + c) 8 ||| b1_ i), S.2) (uf_ F 89 (12 * c + i) 1) := by
  have hX := sim_x1 hs hc h2
  have h0 := (hs.2.2.2.2.2.2.1 c hc).1
  obtain ⟨x1, x2, ⟨y1, y2, y3⟩, ⟨z1, z2, z3, z4, z5, z6, z7⟩, ⟨v0, v1⟩, ⟨w0, w1, w2, w3, w4⟩⟩ := hX
  have ef : fi_ (uf_ F 89 (12 * c + i) 1) c = fi_ F c := by
    rw [fi_fb, fi_fb]; unfold wb_; rw [uf_row _ _ _ _ _ (by omega)]
  refine sim_x hs hc (fun n a b => uf_row _ _ _ _ _ a) (fun n hn => uf_row _ _ _ _ _ (by omega)) (fun n j a b e => by rw [uf_row _ _ _ _ _ (by omega)]) (fun n j a b e => uf_o _ _ _ _ _ _ (by omega)) ⟨?_, Or.inr ⟨?_, ?_, ⟨?_, ?_, ?_⟩, ⟨fun j hj => ?_, fun j hj => ?_, fun j hj => ?_, ?_, ?_, ?_, fun j hj => ?_⟩, ⟨fun j hj => ?_, ?_⟩, ⟨?_, ?_, ?_, ?_, ?_⟩⟩⟩
  · rw [uf_o _ _ _ _ _ _ (by omega)]; exact h0
  · rw [uf_o _ _ _ _ _ _ (by omega)]; exact x1
  · rw [uf_o _ _ _ _ _ _ (by omega), uf_o _ _ _ _ _ _ (by omega)]; exact x2
  · rw [uf_o _ _ _ _ _ _ (by omega), uf_o _ _ _ _ _ _ (by omega)]; exact y1
  · rw [uf_o _ _ _ _ _ _ (by omega), uf_o _ _ _ _ _ _ (by omega)]; exact y2
  · rw [uf_o _ _ _ _ _ _ (by omega), uf_o _ _ _ _ _ _ (by omega)]; exact y3
  · rw [uf_o _ _ _ _ _ _ (by omega)]; exact z1 j hj
  · rw [uf_o _ _ _ _ _ _ (by omega), uf_o _ _ _ _ _ _ (by omega), uf_o _ _ _ _ _ _ (by omega)]; exact z2 j hj
  · rw [uf_o _ _ _ _ _ _ (by omega), uf_o _ _ _ _ _ _ (by omega)]; exact z3 j hj
  · rw [uf_o _ _ _ _ _ _ (by omega)]; unfold wb_; rw [uf_row _ _ _ _ _ (by omega)]; exact z4
  · rw [uf_o _ _ _ _ _ _ (by omega)]; unfold wv_; rw [uf_row _ _ _ _ _ (by omega)]; exact z5
  · rw [uf_s]
    refine bs_ext (bs_or z6 (bs_b1 hi)) (fun k hk => ?_)
    unfold pb_
    by_cases e : k = i
    · subst e; rw [uf_s]; simp
    · rw [uf_o _ _ _ _ _ _ (by omega)]; simp [e]
  · by_cases e : j = i
    · subst e; rw [uf_o _ _ _ _ 87 _ (by omega)]; exact fun _ => hw
    · rw [uf_o _ _ _ _ _ _ (by omega), uf_o _ _ _ _ _ _ (by omega)]; exact z7 j hj
  · rw [uf_o _ _ _ _ _ _ (by omega), uf_o _ _ _ _ _ _ (by omega)]; exact v0 j hj
  · rw [uf_o _ _ _ _ _ _ (by omega), uf_o _ _ _ _ _ _ (by omega)]
    rcases v1 with ⟨a, b, d⟩ | ⟨a, b, k, k1, k2, k3, k4⟩
    · exact Or.inl ⟨a, b, fun j hj => by rw [uf_o _ _ _ _ _ _ (by omega)]; exact d j hj⟩
    · refine Or.inr ⟨a, ?_, k, k1, by rw [uf_o _ _ _ _ _ _ (by omega)]; exact k2, by rw [ef]; exact k3, by rw [uf_o _ _ _ _ _ _ (by omega)]; exact k4⟩
      unfold fb2_; rw [ef, uf_row _ _ _ _ _ (by omega)]; exact b
  · rw [uf_o _ _ _ _ _ _ (by omega), h3]; intro e; exact absurd e (by decide)
  · rw [uf_o _ _ _ _ _ _ (by omega)]; exact w1
  · rw [uf_o _ _ _ _ _ _ (by omega)]; exact w2
  · rw [uf_o _ _ _ _ _ _ (by omega)]; exact w3
  · rw [uf_o _ _ _ _ _ _ (by omega), uf_o _ _ _ _ _ _ (by omega)]; exact w4
abbrev ar_ (F : Nat → Nat → Int32) (r r' : Int32) (F1 : Nat → Nat → Int32) : Prop := (r = -2 ∧ r' = 0 ∧ F1 60 1 = 3) ∨ (¬ r = -2 ∧ r = r' ∧ F1 60 1 = F 60 1)
theorem lo_kp {c i : Nat} {p : Int32} : (∀ n, 83 ≤ n → lo_F F c i p n = F n) ∧ lo_F F c i p 60 = F 60 := by
  have e : lo_F F c i p = if en_g F (i / 4) = 0 then en_F F (i / 4) else lkM_ F c i p (en_F F (i / 4)) := rfl
  rw [e]
  split
  · exact ⟨fun n hn => en_row _ _ _ (by omega), en_row _ _ _ (by omega)⟩
  · refine ⟨fun n hn => ?_, ?_⟩
    · rw [lkM_row (by omega)]; exact en_row _ _ _ (by omega)
    · rw [lkM_row (by omega)]; exact en_row _ _ _ (by omega)
theorem cu_none {i : Nat} {K : Int32 → ss_ → Prop} (hL : S.2.1 i = none) (hK : K 0 S) : cu_ S i K := by
  unfold cu_
  rw [hL]
  exact hK
theorem tll_sim {c i : Nat} {K : Int32 → ss_ → Prop} (hs : sim_ A B T u h q S F) (hc : c < 4) (hi : i < 12) (h2 : ¬ S.1 (40 + c) 2 = 0) (h3 : S.1 (40 + c) 3 = 1) (hw : ¬ F 87 (12 * c + i) = 0) (ho : ovc_ (S.1 (40 + c) 4) (S.2.2 i) = 0)
    (hK : ∀ r S1 r' F1, (∀ K', K' r' F1 → pc_ F c i K') → ar_ F r r' F1 → sim_ A B T u h q S1 F1 → K r S1) : tll_ S c i (fun r S1 => if r = 1 then pwf_ S1 c i K else K r S1) := by
  have hg := (hs.2.2.2.2.2.1 i hi).2.2.2.2
  obtain ⟨w1, w2⟩ := sim_wl hs hc hi h2 hw (ov_no hg ho)
  have hlo := lo_kp (F := F) (c := c) (i := i) (p := nI (fi_ F c))
  unfold tll_
  by_cases hp : plF_ S.1 (i / 4) (10 + i / 4) 0 = 0
  · rw [if_pos hp]
    show (if (-2 : Int32) = 1 then _ else _)
    rw [if_neg (by decide)]
    refine hK _ _ 0 (uf_ (lo_F F c i (nI (fi_ F c))) 60 1 3) (fun K' hK' => ?_) (Or.inl ⟨rfl, rfl, uf_s _ _ _ _⟩) (sim_err w1)
    unfold pc_
    rw [if_pos (w2.mp hp)]
    exact hK'
  · rw [if_neg hp]
    show (if (1 : Int32) = 1 then _ else _)
    rw [if_pos rfl]
    unfold pwf_
    have e40 : (wl_ S i (lkF_ S.1 c i (S.1 0 5))).1 (40 + c) = S.1 (40 + c) := pl_row _ _ _ (by omega)
    refine hK _ _ 1 (uf_ (lo_F F c i (nI (fi_ F c))) 89 (12 * c + i) 1) (fun K' hK' => ?_) (Or.inr ⟨by decide, rfl, ?_⟩) (sim_pwf w1 hc hi (by rw [e40]; exact h2) (by rw [e40]; exact h3) (by rw [hlo.1 87 (by omega)]; exact hw))
    · unfold pc_
      rw [if_neg (fun e => hp (w2.mpr e))]
      exact hK'
    · rw [uf_o _ _ _ _ _ _ (by omega), hlo.2]
set_option maxHeartbeats 2000000 in
theorem pw_sim {c i : Nat} {K : Int32 → ss_ → Prop} (hs : sim_ A B T u h q S F) (hc : c < 4) (hi : i < 12) (hq : q < 4000) (h2 : ¬ S.1 (40 + c) 2 = 0) (h3 : S.1 (40 + c) 3 = 1) (hw : ¬ F 87 (12 * c + i) = 0)
    (hK : ∀ r S1 r' F1, (∀ K', K' r' F1 → pw_ F c i K') → ar_ F r r' F1 → sim_ A B T u (fun i => h i + 1) (q + 2) S1 F1 → K r S1) : pw1_ S c i K := by
  have hX := sim_x1 hs hc h2
  have y1 : F 84 c = S.1 (40 + c) 4 := hX.2.2.1.1
  have hge := hX.2.2.2.2.2.2.2.1
  have hup := up_iff (t := i / 4) hs (by omega)
  have hm : sim_ A B T u (fun i => h i + 1) (q + 2) S F := sim_mono hs (Int.le_refl _) (fun _ _ => by omega) (by omega)
  unfold pw1_
  by_cases h77 : S.1 (10 + i / 4) 0 = 0
  · rw [if_pos h77]
    refine hK _ _ 0 (uf_ F 60 1 3) (fun K' hK' => ?_) (Or.inl ⟨rfl, rfl, uf_s _ _ _ _⟩) (sim_err hm)
    unfold pw_
    rw [if_neg (hup.mp h77)]
    exact hK'
  · rw [if_neg h77]
    have h77' : F 77 (i / 4) = 0 := Classical.byContradiction fun e => h77 (hup.mpr e)
    have hlb := lb_iff (x := S.1 (40 + c) 4) hs hi hge
    by_cases hb : lb_ (S.2.1 i) (S.1 (40 + c) 4) = 0
    · rw [if_pos hb]
      have hb' : ¬ F 65 i = F 84 c := by rw [y1]; exact hlb.mp hb
      have e78 := (hs.2.2.1 (i / 4) (by omega)).2.1
      unfold tl_
      by_cases hwm : S.1 (40 + c) 4 < S.1 (10 + i / 4) 1
      · rw [if_pos hwm]
        show (if (0 : Int32) = 1 then _ else _)
        rw [if_neg (by decide)]
        refine hK _ _ 0 (uf_ F 83 c 0) (fun K' hK' => ?_) (Or.inr ⟨by decide, rfl, by rw [uf_o _ _ _ _ _ _ (by omega)]⟩) (sim_close0 hm hc)
        unfold pw_
        rw [if_pos h77', if_neg hb', if_pos (by rw [y1, e78]; exact hwm)]
        exact hK'
      · rw [if_neg hwm]
        have hwm' : ¬ F 84 c < F 78 (i / 4) := by rw [y1, e78]; exact hwm
        have hov := ov_eq (sim_vl hs hi) (S.1 (40 + c) 4)
        by_cases ho : ovc_ (S.1 (40 + c) 4) (S.2.2 i) = 0
        · rw [if_pos ho]
          have ho' : ov_ F (nI i) (F 84 c) = 0 := by rw [y1, hov]; exact ho
          cases hL : S.2.1 i with
          | none =>
            have h65 : F 65 i = 0 := by have := hs.2.2.2.2.1 i hi; rw [hL] at this; exact this
            refine cu_none hL ?_
            show ite ((0 : Int32) = -2) _ _
            rw [if_neg (by decide), if_pos ho]
            refine tll_sim (K := K) hs hc hi h2 h3 hw ho (fun r S1 r' F1 a b d => hK r S1 r' F1 (fun K' hK' => ?_) b (sim_mono d (Int.le_refl _) (fun _ _ => by omega) (by omega)))
            unfold pw_
            rw [if_pos h77', if_neg hb', if_neg hwm', if_pos ho', if_pos (by rw [h65]; decide)]
            generalize pc_ F c i = W at a ⊢
            exact a K' hK'
          | some f =>
            have h65 : ¬ F 65 i ≤ 0 := by
              have := (sim_sl hs hi hL).2.2.2.2.2.2.2.1
              rw [Int32.le_iff_toInt_le, i_0]; omega
            refine cu_sim hs hi hq hL (fun r S1 r' F1 ev hr hs1 hkp => ?_)
            have e40 : S1.1 (40 + c) = S.1 (40 + c) := hkp.1 _ (by omega)
            have hstep : ∀ K' : Int32 → (Nat → Nat → Int32) → Prop, (if r' = 1 then K' 0 (uf_ F1 60 1 3) else if r' = 0 then K' 0 (uf_ F1 60 1 3) else if ov_ F1 (nI i) (F 84 c) = 0 then pc_ F1 c i K' else K' 0 (uf_ F1 83 c 0)) → pw_ F c i K' := fun K' hh => by
              unfold pw_
              rw [if_pos h77', if_neg hb', if_neg hwm', if_pos ho', if_neg h65]
              exact ev _ hh
            by_cases hr2 : r = -2
            · rw [if_pos hr2]
              show (if (-2 : Int32) = 1 then _ else _)
              rw [if_neg (by decide)]
              refine hK _ _ 0 (uf_ F1 60 1 3) (fun K' hK' => hstep K' ?_) (Or.inl ⟨rfl, rfl, uf_s _ _ _ _⟩) (sim_err hs1)
              rcases hr with ⟨_, e | e⟩ | ⟨e, _⟩ | ⟨e, _⟩
              · rw [e, if_neg (by decide), if_pos rfl]; exact hK'
              · rw [e, if_pos rfl]; exact hK'
              · rw [e] at hr2; exact absurd hr2 (by decide)
              · rw [e] at hr2; exact absurd hr2 (by decide)
            · rw [if_neg hr2]
              have hr3 : ¬ r' = 1 ∧ ¬ r' = 0 := by
                rcases hr with ⟨e, _⟩ | ⟨_, e⟩ | ⟨_, e⟩
                · exact absurd e hr2
                · rw [e]; decide
                · rw [e]; decide
              have y1' : F 84 c = S1.1 (40 + c) 4 := by rw [e40]; exact y1
              have hov1 := ov_eq (sim_vl hs1 hi) (S1.1 (40 + c) 4)
              by_cases ho1 : ovc_ (S1.1 (40 + c) 4) (S1.2.2 i) = 0
              · rw [if_pos ho1]
                refine tll_sim (K := K) hs1 hc hi (by rw [e40]; exact h2) (by rw [e40]; exact h3) (by rw [hkp.2.1 87 (by omega)]; exact hw) ho1 (fun r2 S2 r2' F2 a b d => hK r2 S2 r2' F2 (fun K' hK' => hstep K' ?_) (b.imp id (fun z => ⟨z.1, z.2.1, z.2.2.trans hkp.2.2⟩)) d)
                rw [if_neg hr3.1, if_neg hr3.2, if_pos (by rw [y1', hov1]; exact ho1)]
                generalize pc_ F1 c i = W at a ⊢
                exact a K' hK'
              · rw [if_neg ho1]
                show (if (0 : Int32) = 1 then _ else _)
                rw [if_neg (by decide)]
                refine hK _ _ 0 (uf_ F1 83 c 0) (fun K' hK' => hstep K' ?_) (Or.inr ⟨by decide, rfl, by rw [uf_o _ _ _ _ _ _ (by omega)]; exact hkp.2.2⟩) (sim_close0 hs1 hc)
                rw [if_neg hr3.1, if_neg hr3.2, if_neg (by rw [y1', hov1]; exact ho1)]
                exact hK'
        · rw [if_neg ho]
          show (if (0 : Int32) = 1 then _ else _)
          rw [if_neg (by decide)]
          refine hK _ _ 0 (uf_ F 83 c 0) (fun K' hK' => ?_) (Or.inr ⟨by decide, rfl, by rw [uf_o _ _ _ _ _ _ (by omega)]⟩) (sim_close0 hm hc)
          unfold pw_
          rw [if_pos h77', if_neg hb', if_neg hwm', if_neg (by rw [y1, hov]; exact ho)]
          exact hK'
    · rw [if_neg hb]
      have hb' : F 65 i = F 84 c := by
        rw [y1]
        exact Classical.byContradiction fun e => hb (hlb.mpr e)
      unfold pwf_
      refine hK _ _ 1 (uf_ F 89 (12 * c + i) 1) (fun K' hK' => ?_) (Or.inr ⟨by decide, rfl, by rw [uf_o _ _ _ _ _ _ (by omega)]⟩) (sim_pwf hm hc hi h2 h3 hw)
      unfold pw_
      rw [if_pos h77', if_pos hb']
      exact hK'
end SM
