theorem pl_row (F : Nat → Nat → Int32) (t n : Nat) (h : n ≠ 10 + t) : plF_ F t n = F n := by
  unfold plF_
  rw [uf_row _ _ _ _ _ h, uf_row _ _ _ _ _ h, uf_row _ _ _ _ _ h, uf_row _ _ _ _ _ h, uf_row _ _ _ _ _ h]
theorem en_row (F : Nat → Nat → Int32) (t n : Nat) (h : n ≠ 77 ∧ n ≠ 79 ∧ n ≠ 80 ∧ n ≠ 81) : en_F F t n = F n := by
  unfold en_F
  rw [uf_row _ _ _ _ _ h.2.1, uf_row _ _ _ _ _ h.1, uf_row _ _ _ _ _ h.2.2.2, uf_row _ _ _ _ _ h.2.2.1, uf_row _ _ _ _ _ h.2.1]
theorem en_at (F : Nat → Nat → Int32) (t n j : Nat) (h : j ≠ t) : en_F F t n j = F n j := by
  unfold en_F
  rw [uf_o _ _ _ _ _ _ (Or.inr h), uf_o _ _ _ _ _ _ (Or.inr h), uf_o _ _ _ _ _ _ (Or.inr h), uf_o _ _ _ _ _ _ (Or.inr h), uf_o _ _ _ _ _ _ (Or.inr h)]
theorem en_77 (F : Nat → Nat → Int32) (t : Nat) : en_F F t 77 t = if F 77 t = 0 ∧ ¬ en_f F t = 0 then 0 else 1 := by
  unfold en_F
  rw [uf_o _ _ _ _ _ _ (by omega), uf_s]
theorem en_79 (F : Nat → Nat → Int32) (t : Nat) : en_F F t 79 t = en_l F t + en_g F t := by
  unfold en_F
  rw [uf_s]
theorem en_80 (F : Nat → Nat → Int32) (t : Nat) : en_F F t 80 t = F 80 t + 1 := by
  unfold en_F
  rw [uf_o _ _ _ _ _ _ (by omega), uf_o _ _ _ _ _ _ (by omega), uf_o _ _ _ _ _ _ (by omega), uf_s]
theorem en_81 (F : Nat → Nat → Int32) (t : Nat) : en_F F t 81 t = en_f F t := by
  unfold en_F
  rw [uf_o _ _ _ _ _ _ (by omega), uf_o _ _ _ _ _ _ (by omega), uf_s]
theorem pl_0 (F : Nat → Nat → Int32) (t : Nat) : plF_ F t (10 + t) 0 = if F (10 + t) 4 = 1 then 0 else F (10 + t) 0 := by
  unfold plF_
  rw [uf_o _ _ _ _ _ _ (by omega), uf_s]
theorem pl_1 (F : Nat → Nat → Int32) (t : Nat) : plF_ F t (10 + t) 1 = F (10 + t) 1 := by
  unfold plF_
  rw [uf_o _ _ _ _ _ _ (by omega), uf_o _ _ _ _ _ _ (by omega), uf_o _ _ _ _ _ _ (by omega), uf_o _ _ _ _ _ _ (by omega), uf_o _ _ _ _ _ _ (by omega)]
theorem pl_2 (F : Nat → Nat → Int32) (t : Nat) : plF_ F t (10 + t) 2 = if F (10 + t) 4 = 1 ∧ F (10 + t) 5 = 0 then (if F (10 + t) 2 < 8 then F (10 + t) 2 else 0) else (if F (10 + t) 2 < 8 then F (10 + t) 2 else 0) + 1 := by
  unfold plF_
  rw [uf_s]
theorem pl_3 (F : Nat → Nat → Int32) (t : Nat) : plF_ F t (10 + t) 3 = F (10 + t) 3 + 1 := by
  unfold plF_
  rw [uf_o _ _ _ _ _ _ (by omega), uf_o _ _ _ _ _ _ (by omega), uf_o _ _ _ _ _ _ (by omega), uf_o _ _ _ _ _ _ (by omega), uf_s]
theorem pl_4 (F : Nat → Nat → Int32) (t : Nat) : plF_ F t (10 + t) 4 = if F (10 + t) 4 ≤ 0 then F (10 + t) 4 else F (10 + t) 4 - 1 := by
  unfold plF_
  rw [uf_o _ _ _ _ _ _ (by omega), uf_o _ _ _ _ _ _ (by omega), uf_s]
theorem pl_5 (F : Nat → Nat → Int32) (t : Nat) : plF_ F t (10 + t) 5 = F (10 + t) 5 := by
  unfold plF_
  rw [uf_o _ _ _ _ _ _ (by omega), uf_o _ _ _ _ _ _ (by omega), uf_o _ _ _ _ _ _ (by omega), uf_o _ _ _ _ _ _ (by omega), uf_o _ _ _ _ _ _ (by omega)]
theorem en_f0 {A F : Nat → Nat → Int32} {t : Nat} (h : sB_ A F t) : en_f F t = 0 ↔ A (10 + t) 4 = 1 := by
  unfold en_f
  rcases h.2.2.2.2.1 with ⟨a, b⟩ | ⟨a, b⟩
  · rw [if_pos a, b]; decide
  · rw [if_neg (mm_nle a), ← b]
    constructor
    · intro e
      have : F 81 t - 1 + 1 = 0 + 1 := by rw [e]
      simpa using this
    · intro e; rw [e]; decide
theorem en_g0 {A F : Nat → Nat → Int32} {t : Nat} (h : sB_ A F t) : en_g F t = plr_ A t := by
  unfold en_g plr_
  have := en_f0 h
  by_cases h1 : A (10 + t) 4 = 1 ∧ A (10 + t) 5 = 0
  · rw [if_pos h1, if_pos ⟨this.mpr h1.1, by rw [h.2.2.2.2.2.1]; exact h1.2⟩]
  · rw [if_neg h1, if_neg (fun hh => h1 ⟨this.mp hh.1, by rw [← h.2.2.2.2.2.1]; exact hh.2⟩)]
theorem en_l0 {A F : Nat → Nat → Int32} {t : Nat} (h : sB_ A F t) : en_l F t = (if A (10 + t) 2 < 8 then A (10 + t) 2 else 0) := by
  unfold en_l
  rw [h.2.2.1]
  have h1 := h.2.2.2.2.2.2
  have e8 : (8 : Int32).toInt = 8 := by decide
  by_cases h8 : A (10 + t) 2 = 8
  · rw [if_pos h8, if_neg (by rw [h8]; decide)]
  · rw [if_neg h8, if_pos]
    rw [Int32.lt_iff_toInt_lt, e8]
    have : (A (10 + t) 2).toInt ≠ 8 := fun e => h8 (Int32.toInt_inj.mp (by rw [e, e8]))
    omega
theorem sB_log {A F : Nat → Nat → Int32} {t : Nat} (h : sB_ A F t) : sB_ (plF_ A t) (en_F F t) t := by
  have hf := en_f0 h
  have hg := en_g0 h
  have hl := en_l0 h
  obtain ⟨h1, h2, h3, h4, h5, h6, h7, h8⟩ := h
  have e8 : (8 : Int32).toInt = 8 := by decide
  refine ⟨?_, ?_, ?_, ?_, ?_, ?_, ?_, ?_⟩
  · rw [en_77, pl_0]
    by_cases e : A (10 + t) 4 = 1
    · rw [if_pos e, if_neg (fun hh => hh.2 (hf.mpr e))]
      exact Or.inr ⟨rfl, rfl⟩
    · rw [if_neg e]
      have : ¬ en_f F t = 0 := fun hh => e (hf.mp hh)
      rcases h1 with ⟨a, b⟩ | ⟨a, b⟩
      · rw [if_pos ⟨b, this⟩]; exact Or.inl ⟨a, rfl⟩
      · rw [if_neg (fun hh => by rw [b] at hh; exact absurd hh.1 (by decide))]; exact Or.inr ⟨a, rfl⟩
  · rw [en_row _ _ _ (by omega), pl_1]; exact h2
  · rw [en_79, pl_2, hl, hg]
    unfold plr_
    by_cases e : A (10 + t) 4 = 1 ∧ A (10 + t) 5 = 0
    · rw [if_pos e, if_pos e]; exact Int32.add_zero _
    · rw [if_neg e, if_neg e]
  · rw [en_80, pl_3, h4]
  · rw [en_81, pl_4]
    unfold en_f
    rcases h5 with ⟨a, b⟩ | ⟨a, b⟩
    · rw [if_pos a, b, if_pos (by decide)]; exact Or.inl ⟨by decide, rfl⟩
    · rw [if_neg (mm_nle a), ← b, if_neg (mm_nle a)]
      have a' := Int32.lt_iff_toInt_lt.mp a
      have e0 : (0 : Int32).toInt = 0 := by decide
      have hlt := Int32.toInt_lt (F 81 t)
      have hs : (F 81 t - 1).toInt = (F 81 t).toInt - 1 := i_sub1 (by omega)
      by_cases hz : F 81 t - 1 = 0
      · rw [hz]; exact Or.inl ⟨by decide, rfl⟩
      · refine Or.inr ⟨?_, rfl⟩
        rw [Int32.lt_iff_toInt_lt, hs, e0]
        have : (F 81 t - 1).toInt ≠ 0 := fun e => hz (Int32.toInt_inj.mp (by rw [e, e0]))
        omega
  · rw [en_row _ _ _ (by omega), pl_5]; exact h6
  · rw [pl_2]
    have key : ∀ x : Int32, 0 ≤ x.toInt → x.toInt < 8 → (x + 1).toInt = x.toInt + 1 := fun x a b => i_add1 (by omega)
    split
    · split
      · exact h7
      · decide
    · split
      · rename_i hh
        rw [Int32.lt_iff_toInt_lt, e8] at hh
        rw [key _ h7 hh]; omega
      · decide
  · rw [pl_2]
    have key : ∀ x : Int32, 0 ≤ x.toInt → x.toInt < 8 → (x + 1).toInt = x.toInt + 1 := fun x a b => i_add1 (by omega)
    split
    · split
      · exact h8
      · decide
    · split
      · rename_i hh
        rw [Int32.lt_iff_toInt_lt, e8] at hh
        rw [key _ h7 hh]; omega
      · decide
