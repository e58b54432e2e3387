theorem zr_o {F : Nat → Nat → Int32} {c : Nat} : ∀ k n j, (n < 87 ∨ 90 < n ∨ j / 12 ≠ c ∨ 12 * c + k ≤ j) → k ≤ 12 → zr_ F c k n j = F n j := by
  intro k
  induction k with
  | zero => intro n j _ _; rfl
  | succ k ih =>
    intro n j hh hk
    unfold zr_
    rw [uf_o _ _ _ _ _ _ (by omega), uf_o _ _ _ _ _ _ (by omega), uf_o _ _ _ _ _ _ (by omega), uf_o _ _ _ _ _ _ (by omega)]
    exact ih n j (by omega) (by omega)
theorem zr_z {F : Nat → Nat → Int32} {c : Nat} : ∀ k n i, 87 ≤ n → n ≤ 90 → i < k → zr_ F c k n (12 * c + i) = 0 := by
  intro k
  induction k with
  | zero => intro n i _ _ h; omega
  | succ k ih =>
    intro n i h1 h2 h3
    unfold zr_
    by_cases e : i = k
    · subst e
      by_cases e90 : n = 90
      · subst e90; rw [uf_s]
      · rw [uf_o _ _ _ _ _ _ (by omega)]
        by_cases e89 : n = 89
        · subst e89; rw [uf_s]
        · rw [uf_o _ _ _ _ _ _ (by omega)]
          by_cases e88 : n = 88
          · subst e88; rw [uf_s]
          · rw [uf_o _ _ _ _ _ _ (by omega)]
            have e87 : n = 87 := by omega
            subst e87; rw [uf_s]
    · rw [uf_o _ _ _ _ _ _ (by omega), uf_o _ _ _ _ _ _ (by omega), uf_o _ _ _ _ _ _ (by omega), uf_o _ _ _ _ _ _ (by omega)]
      exact ih n i h1 h2 (by omega)
section OPS
variable {S : ss_}
theorem op_be {c : Nat} (hc : c < 4) : op_ cdn_ (fun K => beC_ S c (fun e r S1 => K (e, r, S1))) (fun F K => be_ F c K) S := by
  intro A B T u m q F hu hq hm hF hs
  have h0 := (hs.2.2.2.2.2.2.1 c hc).1
  unfold beC_
  rcases (hs.2.2.2.2.2.2.1 c hc).2 with ⟨e1, e2, e3⟩ | hX
  · rw [if_pos e1]
    have hnx := hs.2.1.2.2.2.2.1
    have hu1 := hs.2.1.2.2.2.2.2.1
    have e603 : F 60 3 + 1 - 1 = S.1 1 0 := by rw [hs.2.1.2.2.1]; exact Int32.add_sub_cancel _ _
    have en : (S.1 1 0 + 1).toInt = (S.1 1 0).toInt + 1 := i_add1 (by omega)
    have f84 : be_F F c 84 c = S.1 1 0 := by
      unfold be_F
      rw [zr_o _ _ _ (by omega) (by omega), uf_o _ _ _ _ _ _ (by omega), uf_o _ _ _ _ _ _ (by omega), uf_o _ _ _ _ _ _ (by omega), uf_s, e603]
    have f83 : be_F F c 83 c = 1 := by
      unfold be_F
      rw [zr_o _ _ _ (by omega) (by omega), uf_o _ _ _ _ _ _ (by omega), uf_o _ _ _ _ _ _ (by omega), uf_s]
    have f85 : be_F F c 85 c = 0 := by
      unfold be_F
      rw [zr_o _ _ _ (by omega) (by omega), uf_o _ _ _ _ _ _ (by omega), uf_s]
    have f86 : be_F F c 86 c = 0 := by
      unfold be_F
      rw [zr_o _ _ _ (by omega) (by omega), uf_s]
    have fz : ∀ n i, 87 ≤ n → n ≤ 90 → i < 12 → be_F F c n (12 * c + i) = 0 := fun n i a b d => zr_z 12 n i a b d
    have flo : ∀ n, n < 83 ∨ 90 < n → be_F F c n = ho_F F n := fun n hn => funext fun j => by
      unfold be_F
      rw [zr_o _ _ _ (by omega) (by omega), uf_o _ _ _ _ _ _ (by omega), uf_o _ _ _ _ _ _ (by omega), uf_o _ _ _ _ _ _ (by omega), uf_o _ _ _ _ _ _ (by omega)]
    have a40 : ∀ j, j ≠ 2 → j ≠ 4 → uf_ (uf_ (hoC_ S.1) (40 + c) 2 1) (40 + c) 4 (S.1 1 0) (40 + c) j = S.1 (40 + c) j := fun j x1 x2 => by
      rw [uf_o _ _ _ _ _ _ (by omega), uf_o _ _ _ _ _ _ (by omega), hoC_row (by omega)]
    have hwf : ∀ k, k < 12 → wb_ (be_F F c) c k = false := fun k hk => by unfold wb_; rw [fz 87 k (by omega) (by omega) hk]; decide
    have hvf : ∀ k, k < 12 → wv_ (be_F F c) c k = false := fun k hk => by unfold wv_; rw [fz 87 k (by omega) (by omega) hk]; decide
    have hpf : ∀ k, k < 12 → pb_ (be_F F c) c k = false := fun k hk => by unfold pb_; rw [fz 89 k (by omega) (by omega) hk]; decide
    have z0 : ∀ {x : Int32} {b : Nat → Bool}, x = 0 → (∀ k, k < 12 → b k = false) → bs_ x b := fun hx hb => by rw [hx]; exact bs_ext bs_0 (fun k hk => (hb k hk).symm)
    refine ⟨be_F F c 84 c, be_F F c, tu_ T (S.1 1 0) (S.1 1 0), fun K' hK' => ?_, Or.inl ⟨rfl, ?_, ?_⟩, ?_⟩
    · show be_ F c K'
      unfold be_
      rw [if_pos e2]; exact hK'
    · rw [flo 60 (by omega), ho_o (by omega)]; exact hF
    · rw [f84]; exact uf_s _ _ _ _
    · refine sim_mono (sim_ho (y := S.1 1 0) hs hu hc (fun n a b _ => ?_) ?_ flo (fun n j a b e => ?_) (fun n j a b e => ?_) ⟨?_, Or.inr ⟨?_, ?_, ⟨?_, ?_, ?_⟩, ⟨fun j hj => ?_, fun j hj => ?_, fun j hj => ?_, ?_, ?_, ?_, fun j hj => ?_⟩, ⟨fun j hj => ?_, ?_⟩, ⟨?_, ?_, ?_, ?_, ?_⟩⟩⟩) (by omega) (fun _ _ => by omega) (by omega)
      · rw [uf_row _ _ _ _ _ b, uf_row _ _ _ _ _ b, hoC_row a]
      · rw [uf_row _ _ _ _ _ (by omega), uf_row _ _ _ _ _ (by omega)]
      · unfold be_F
        rw [zr_o _ _ _ (by omega) (by omega), uf_o _ _ _ _ _ _ (by omega), uf_o _ _ _ _ _ _ (by omega), uf_o _ _ _ _ _ _ (by omega), uf_o _ _ _ _ _ _ (by omega), ho_o (by omega)]
      · unfold be_F
        rw [zr_o _ _ _ (by omega) (by omega), uf_o _ _ _ _ _ _ (by omega), uf_o _ _ _ _ _ _ (by omega), uf_o _ _ _ _ _ _ (by omega), uf_o _ _ _ _ _ _ (by omega), ho_o (by omega)]
      · rw [a40 0 (by omega) (by omega)]; exact h0
      · rw [uf_o _ _ _ _ _ _ (by omega), uf_s]
      · rw [a40 3 (by omega) (by omega), e3 3 (by omega) (by omega), f83]; exact Or.inl ⟨rfl, rfl⟩
      · rw [f84, uf_s]
      · rw [f85, a40 5 (by omega) (by omega), e3 5 (by omega) (by omega)]
      · rw [f86, a40 10 (by omega) (by omega), e3 10 (by omega) (by omega)]; exact Or.inl ⟨rfl, rfl⟩
      · rw [fz 87 j (by omega) (by omega) hj]; exact Or.inl rfl
      · rw [fz 87 j (by omega) (by omega) hj]; intro e; exact absurd rfl e
      · intro _; exact fz 88 j (by omega) (by omega) hj
      · rw [a40 6 (by omega) (by omega)]; exact z0 (e3 6 (by omega) (by omega)) hwf
      · rw [a40 7 (by omega) (by omega)]; exact z0 (e3 7 (by omega) (by omega)) hvf
      · rw [a40 8 (by omega) (by omega)]; exact z0 (e3 8 (by omega) (by omega)) hpf
      · rw [fz 89 j (by omega) (by omega) hj]; intro e; exact absurd rfl e
      · rw [fz 90 j (by omega) (by omega) hj]; intro e; exact absurd rfl e
      · rw [a40 10 (by omega) (by omega), a40 9 (by omega) (by omega)]
        exact Or.inl ⟨e3 10 (by omega) (by omega), e3 9 (by omega) (by omega), fun i hi => fz 90 i (by omega) (by omega) hi⟩
      · rw [a40 8 (by omega) (by omega), a40 5 (by omega) (by omega), a40 10 (by omega) (by omega)]
        exact fun _ => ⟨e3 8 (by omega) (by omega), e3 5 (by omega) (by omega), e3 10 (by omega) (by omega)⟩
      · rw [uf_s, tu_s]
      · rw [uf_s]; exact hnx
      · rw [uf_s, uf_o _ _ _ _ _ _ (by omega), uf_o _ _ _ _ _ _ (by omega), hoC_at.1, en]; omega
      · rw [a40 5 (by omega) (by omega)]; exact Or.inl (e3 5 (by omega) (by omega))
  · have h2 : ¬ S.1 (40 + c) 2 = 0 := by rw [hX.1]; decide
    rw [if_neg h2]
    have h83 : ¬ F 83 c = 0 := by
      rcases hX.2.1 with ⟨_, e⟩ | ⟨_, e⟩ <;> rw [e] <;> decide
    refine ⟨0, uf_ F 60 1 2, T, fun K' hK' => ?_, mt_er 2 (by decide) (by decide) (by rw [uf_s]; rfl), sim_mono (sim_err hs) (by omega) (fun _ _ => by omega) (by omega)⟩
    show be_ F c K'
    unfold be_
    rw [if_neg h83]; exact hK'
theorem sim_ch {A B : Nat → Nat → Int32} {T : Int32 → Int32} {u : Int} {h : Nat → Nat} {q : Nat} {F : Nat → Nat → Int32} {c i : Nat} {w y x7 : Int32} (hs : sim_ A B T u h q S F) (hc : c < 4) (hi : i < 12) (h2 : S.1 (40 + c) 2 = 1) (h3 : S.1 (40 + c) 3 = 0) (h83 : F 83 c = 1) (hw : w = 1 ∨ (w = 2 ∧ y = 0)) (hx7 : bs_ x7 (fun k => if k = i then decide (w = 2) else wv_ F c k)) : sim_ A B T u h q (uf_ (uf_ (uf_ S.1 (40 + c) 6 (S.1 (40 + c) 6 ||| b1_ i)) (40 + c) 7 x7) (50 + c) i y, S.2) (uf_ (uf_ F 87 (12 * c + i) w) 88 (12 * c + i) y) := by
  have hX := sim_x1 hs hc (by rw [h2]; decide)
  have h0 := (hs.2.2.2.2.2.2.1 c hc).1
  obtain ⟨x1, x2, ⟨y1, y2, y3⟩, ⟨z1, z2, z3, z4, z5, z6, z7⟩, ⟨v0, v1⟩, ⟨w0, w1, w2, w3, w4⟩⟩ := hX
  obtain ⟨w8, w5, w10⟩ := w0 h3
  have hw0 : ¬ w = 0 := by rcases hw with e | ⟨e, _⟩ <;> rw [e] <;> decide
  have h89 : ∀ k, k < 12 → F 89 (12 * c + k) = 0 := fun k hk => by
    have := (bs_z z6).mp w8 k hk
    unfold pb_ at this
    exact Classical.byContradiction fun e => by simp [e] at this
  have h90 : S.1 (40 + c) 9 = 0 ∧ ∀ k, k < 12 → F 90 (12 * c + k) = 0 := by
    rcases v1 with ⟨_, a, b⟩ | ⟨a, _⟩
    · exact ⟨a, b⟩
    · rw [w10] at a; exact absurd a (by decide)
  have a40 : ∀ j, j ≠ 6 → j ≠ 7 → uf_ (uf_ (uf_ S.1 (40 + c) 6 (S.1 (40 + c) 6 ||| b1_ i)) (40 + c) 7 x7) (50 + c) i y (40 + c) j = S.1 (40 + c) j := fun j b1 b2 => by
    rw [uf_o _ _ _ _ _ _ (by omega), uf_o _ _ _ _ _ _ (by omega), uf_o _ _ _ _ _ _ (by omega)]
  have f87 : ∀ k, k < 12 → uf_ (uf_ F 87 (12 * c + i) w) 88 (12 * c + i) y 87 (12 * c + k) = if k = i then w else F 87 (12 * c + k) := fun k hk => by
    rw [uf_o _ _ _ _ _ _ (by omega)]
    by_cases e : k = i
    · subst e; rw [uf_s, if_pos rfl]
    · rw [uf_o _ _ _ _ _ _ (by omega), if_neg e]
  have f88 : ∀ k, k < 12 → uf_ (uf_ F 87 (12 * c + i) w) 88 (12 * c + i) y 88 (12 * c + k) = if k = i then y else F 88 (12 * c + k) := fun k hk => by
    by_cases e : k = i
    · subst e; rw [uf_s, if_pos rfl]
    · rw [uf_o _ _ _ _ _ _ (by omega), uf_o _ _ _ _ _ _ (by omega), if_neg e]
  have f9 : ∀ n, n ≠ 87 → n ≠ 88 → uf_ (uf_ F 87 (12 * c + i) w) 88 (12 * c + i) y n = F n := fun n b1 b2 => by
    rw [uf_row _ _ _ _ _ b2, uf_row _ _ _ _ _ b1]
  refine sim_x hs hc (fun n a b => by rw [uf_row _ _ _ _ _ b, uf_row _ _ _ _ _ a, uf_row _ _ _ _ _ a]) (fun n hn => f9 n (by omega) (by omega)) (fun n j a b e => by rw [f9 n (by omega) (by omega)]) (fun n j a b e => by rw [uf_o _ _ _ _ _ _ (by omega), uf_o _ _ _ _ _ _ (by omega)]) ⟨?_, Or.inr ⟨?_, ?_, ⟨?_, ?_, ?_⟩, ⟨fun j hj => ?_, fun j hj => ?_, fun j hj => ?_, ?_, ?_, ?_, fun j hj => ?_⟩, ⟨fun j hj => ?_, ?_⟩, ⟨?_, ?_, ?_, ?_, ?_⟩⟩⟩
  · rw [a40 0 (by omega) (by omega)]; exact h0
  · rw [a40 2 (by omega) (by omega)]; exact x1
  · rw [a40 3 (by omega) (by omega), f9 83 (by omega) (by omega)]; exact x2
  · rw [a40 4 (by omega) (by omega), f9 84 (by omega) (by omega)]; exact y1
  · rw [a40 5 (by omega) (by omega), f9 85 (by omega) (by omega)]; exact y2
  · rw [a40 10 (by omega) (by omega), f9 86 (by omega) (by omega)]; exact y3
  · rw [f87 j hj]
    split
    · rcases hw with e | ⟨e, _⟩ <;> rw [e]
      · exact Or.inr (Or.inl rfl)
      · exact Or.inr (Or.inr rfl)
    · exact z1 j hj
  · rw [f87 j hj, f88 j hj]
    by_cases e : j = i
    · subst e; rw [if_pos rfl, if_pos rfl, uf_s]; exact fun _ => rfl
    · rw [if_neg e, if_neg e, uf_o _ _ _ _ _ _ (by omega), uf_o _ _ _ _ _ _ (by omega), uf_o _ _ _ _ _ _ (by omega)]; exact z2 j hj
  · rw [f87 j hj, f88 j hj]
    by_cases e : j = i
    · subst e; rw [if_pos rfl, if_pos rfl]
      intro e2
      rcases hw with e3 | ⟨_, e3⟩
      · rw [e3] at e2; exact absurd e2 (by decide)
      · exact e3
    · rw [if_neg e, if_neg e]; exact z3 j hj
  · rw [uf_o _ _ _ _ _ _ (by omega), uf_o _ _ _ _ _ _ (by omega), uf_s]
    refine bs_ext (bs_or z4 (bs_b1 hi)) (fun k hk => ?_)
    unfold wb_
    rw [f87 k hk]
    by_cases e : k = i
    · simp [e, hw0]
    · simp [e]
  · rw [uf_o _ _ _ _ _ _ (by omega), uf_s]
    refine bs_ext hx7 (fun k hk => ?_)
    unfold wv_
    rw [f87 k hk]
    by_cases e : k = i
    · simp [e]
    · simp [e]
  · rw [a40 8 (by omega) (by omega)]
    refine bs_ext z6 (fun k hk => ?_)
    unfold pb_; rw [f9 89 (by omega) (by omega)]
  · rw [f9 89 (by omega) (by omega), h89 j hj]; intro e; exact absurd rfl e
  · rw [f9 90 (by omega) (by omega), h90.2 j hj]; intro e; exact absurd rfl e
  · rw [a40 10 (by omega) (by omega), a40 9 (by omega) (by omega), f9 90 (by omega) (by omega)]
    exact Or.inl ⟨w10, h90.1, h90.2⟩
  · rw [a40 3 (by omega) (by omega), a40 8 (by omega) (by omega), a40 5 (by omega) (by omega), a40 10 (by omega) (by omega)]; exact w0
  · rw [a40 4 (by omega) (by omega)]; exact w1
  · rw [a40 4 (by omega) (by omega)]; exact w2
  · rw [a40 4 (by omega) (by omega)]; exact w3
  · rw [a40 5 (by omega) (by omega), a40 4 (by omega) (by omega)]; exact w4
theorem op_se {c i : Nat} {y : Int32} (hc : c < 4) (hi : i < 12) : op_ cdn_ (fun K => seC_ S c i y (fun e S1 => K (e, 0, S1))) (fun F K => K 0 (ch_F F c i 1 y)) S := by
  intro A B T u m q F hu hq hm hF hs
  have hm0 : sim_ A B T (u + 8) (fun _ => m + 1) (q + 2) S F := sim_mono hs (by omega) (fun _ _ => by omega) (by omega)
  unfold seC_
  rcases (hs.2.2.2.2.2.2.1 c hc).2 with ⟨e1, e2, _⟩ | hX
  · rw [if_pos e1]
    refine ⟨0, uf_ F 60 1 2, T, fun K' hK' => ?_, mt_er 2 (by decide) (by decide) (by rw [uf_s]; rfl), sim_err hm0⟩
    show K' 0 (ch_F F c i 1 y)
    unfold ch_F
    rw [if_neg (by rw [e2]; decide)]; exact hK'
  · rw [if_neg (by rw [hX.1]; decide)]
    rcases hX.2.1 with ⟨h3, h83⟩ | ⟨h3, h83⟩
    · rw [if_pos h3]
      refine ⟨0, _, T, fun K' hK' => ?_, Or.inl ⟨rfl, ?_, rfl⟩, sim_ch hm0 hc hi hX.1 h3 h83 (Or.inl rfl) ?_⟩
      · show K' 0 (ch_F F c i 1 y)
        unfold ch_F
        rw [if_pos h83]; exact hK'
      · rw [uf_o _ _ _ _ _ _ (by omega), uf_o _ _ _ _ _ _ (by omega)]; exact hF
      · refine bs_ext (bs_andn hX.2.2.2.1.2.2.2.2.1 (bs_b1 hi)) (fun k hk => ?_)
        by_cases e : k = i
        · simp [e]
        · simp [e]
    · rw [if_neg (by rw [h3]; decide)]
      refine ⟨0, uf_ F 60 1 2, T, fun K' hK' => ?_, mt_er 2 (by decide) (by decide) (by rw [uf_s]; rfl), sim_err hm0⟩
      show K' 0 (ch_F F c i 1 y)
      unfold ch_F
      rw [if_neg (by rw [h83]; decide)]; exact hK'
theorem op_er {c i : Nat} (hc : c < 4) (hi : i < 12) : op_ cdn_ (fun K => erC_ S c i (fun e S1 => K (e, 0, S1))) (fun F K => K 0 (ch_F F c i 2 0)) S := by
  intro A B T u m q F hu hq hm hF hs
  have hm0 : sim_ A B T (u + 8) (fun _ => m + 1) (q + 2) S F := sim_mono hs (by omega) (fun _ _ => by omega) (by omega)
  unfold erC_
  rcases (hs.2.2.2.2.2.2.1 c hc).2 with ⟨e1, e2, _⟩ | hX
  · rw [if_pos e1]
    refine ⟨0, uf_ F 60 1 2, T, fun K' hK' => ?_, mt_er 2 (by decide) (by decide) (by rw [uf_s]; rfl), sim_err hm0⟩
    show K' 0 (ch_F F c i 2 0)
    unfold ch_F
    rw [if_neg (by rw [e2]; decide)]; exact hK'
  · rw [if_neg (by rw [hX.1]; decide)]
    rcases hX.2.1 with ⟨h3, h83⟩ | ⟨h3, h83⟩
    · rw [if_pos h3]
      refine ⟨0, _, T, fun K' hK' => ?_, Or.inl ⟨rfl, ?_, rfl⟩, sim_ch hm0 hc hi hX.1 h3 h83 (Or.inr ⟨rfl, rfl⟩) ?_⟩
      · show K' 0 (ch_F F c i 2 0)
        unfold ch_F
        rw [if_pos h83]; exact hK'
      · rw [uf_o _ _ _ _ _ _ (by omega), uf_o _ _ _ _ _ _ (by omega)]; exact hF
      · refine bs_ext (bs_or hX.2.2.2.1.2.2.2.2.1 (bs_b1 hi)) (fun k hk => ?_)
        by_cases e : k = i
        · simp [e]
        · simp [e]
    · rw [if_neg (by rw [h3]; decide)]
      refine ⟨0, uf_ F 60 1 2, T, fun K' hK' => ?_, mt_er 2 (by decide) (by decide) (by rw [uf_s]; rfl), sim_err hm0⟩
      show K' 0 (ch_F F c i 2 0)
      unfold ch_F
      rw [if_neg (by rw [h83]; decide)]; exact hK'
theorem op_ki {c : Nat} (hc : c < 4) : op_ cdn_ (fun K => kiC_ S c (fun r S1 => K (0, r, S1))) (fun F K => ki_ F c K) S := by
  intro A B T u m q F hu hq hm hF hs
  have hm0 : sim_ A B T (u + 8) (fun _ => m + 1) (q + 2) S F := sim_mono hs (by omega) (fun _ _ => by omega) (by omega)
  unfold kiC_
  rcases (hs.2.2.2.2.2.2.1 c hc).2 with ⟨e1, e2, _⟩ | hX
  · rw [if_pos e1]
    refine ⟨0, F, T, fun K' hK' => ?_, Or.inl ⟨rfl, hF, rfl⟩, hm0⟩
    show ki_ F c K'
    unfold ki_
    rw [if_pos e2]; exact hK'
  · rw [if_neg (by rw [hX.1]; decide)]
    have h83 : ¬ F 83 c = 0 := by
      rcases hX.2.1 with ⟨_, e⟩ | ⟨_, e⟩ <;> rw [e] <;> decide
    refine ⟨1, uf_ F 83 c 0, T, fun K' hK' => ?_, Or.inl ⟨rfl, by rw [uf_o _ _ _ _ _ _ (by omega)]; exact hF, rfl⟩, sim_close0 hm0 hc⟩
    show ki_ F c K'
    unfold ki_
    rw [if_neg h83]; exact hK'
end OPS
