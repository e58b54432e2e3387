def fb_go (b : Nat → Bool) : Nat → Nat → Nat
  | 0, k => k
  | n + 1, k => if b k then k else fb_go b n (k + 1)
def fb_ (b : Nat → Bool) : Nat := fb_go b 11 0
theorem fb_go_p (b : Nat → Bool) : ∀ n k, k ≤ fb_go b n k ∧ fb_go b n k ≤ k + n ∧ (∀ j, k ≤ j → j < fb_go b n k → b j = false) ∧ (fb_go b n k < k + n → b (fb_go b n k) = true) := by
  intro n
  induction n with
  | zero => intro k; exact ⟨Nat.le_refl _, Nat.le_refl _, fun j h1 h2 => absurd h2 (by show ¬ j < k; omega), fun h => absurd h (by show ¬ k < k + 0; omega)⟩
  | succ n ih =>
    intro k
    unfold fb_go
    by_cases h : b k = true
    · rw [if_pos h]
      exact ⟨Nat.le_refl _, by omega, fun j h1 h2 => by omega, fun _ => h⟩
    · rw [if_neg h]
      obtain ⟨a1, a2, a3, a4⟩ := ih (k + 1)
      refine ⟨by omega, by omega, fun j h1 h2 => ?_, fun hlt => a4 (by omega)⟩
      by_cases e : j = k
      · subst e; simpa using h
      · exact a3 j (by omega) h2
theorem fb_lt (b : Nat → Bool) : fb_ b < 12 := by
  have := (fb_go_p b 11 0).2.1
  unfold fb_; omega
theorem fb_at {b : Nat → Bool} {k : Nat} (hk : k < 12) (h : b k = true) : b (fb_ b) = true := by
  obtain ⟨a1, a2, a3, a4⟩ := fb_go_p b 11 0
  by_cases e : fb_go b 11 0 < 11
  · exact a4 (by omega)
  · have h11 : fb_go b 11 0 = 11 := by omega
    have : k = 11 := by
      by_cases e2 : k = 11
      · exact e2
      · have := a3 k (by omega) (by omega)
        rw [h] at this; cases this
    unfold fb_
    rw [h11, ← this]; exact h
theorem fb_min {b : Nat → Bool} {k : Nat} (h : k < fb_ b) : b k = false := (fb_go_p b 11 0).2.2.1 k (by omega) h
theorem fb_ext {b b' : Nat → Bool} (e : ∀ k, k < 12 → b k = b' k) : fb_ b = fb_ b' := by
  have : ∀ n k, k + n ≤ 11 → fb_go b n k = fb_go b' n k := by
    intro n
    induction n with
    | zero => intro k _; rfl
    | succ n ih => intro k hk; unfold fb_go; rw [e k (by omega), ih (k + 1) (by omega)]
  exact this 11 0 (by omega)
theorem le_fb {x : Int32} {b : Nat → Bool} (h : bs_ x b) : le_ x = fb_ b := by
  have : ∀ n k, k + n ≤ 11 → le_go x n k = fb_go b n k := by
    intro n
    induction n with
    | zero => intro k _; rfl
    | succ n ih =>
      intro k hk
      unfold fb_go le_go
      rw [bs_bt h (by omega)]
      cases hb : b k
      · rw [if_pos (by simp), if_neg (by simp)]; exact ih (k + 1) (by omega)
      · rw [if_neg (by simp), if_pos (by simp)]
  exact this 11 0 (by omega)
theorem le_lt (x : Int32) : le_ x < 12 := by
  have : ∀ n k, le_go x n k ≤ k + n := by
    intro n
    induction n with
    | zero => intro k; exact Nat.le_refl _
    | succ n ih =>
      intro k
      unfold le_go
      have := ih (k + 1)
      split <;> omega
  have := this 11 0
  unfold le_; omega
def wb_ (F : Nat → Nat → Int32) (c : Nat) : Nat → Bool := fun k => decide (¬ F 87 (12 * c + k) = 0)
theorem fi_fb (F : Nat → Nat → Int32) (c : Nat) : fi_ F c = fb_ (wb_ F c) := by
  have : ∀ n k, fi_go F c n k = fb_go (wb_ F c) n k := by
    intro n
    induction n with
    | zero => intro k; rfl
    | succ n ih =>
      intro k
      unfold fi_go fb_go
      by_cases h : F 87 (12 * c + k) = 0
      · rw [if_pos h, if_neg (by simp [wb_, h]), ih]
      · rw [if_neg h, if_pos (by simp [wb_, h])]
  exact this 11 0
theorem fi_lt (F : Nat → Nat → Int32) (c : Nat) : fi_ F c < 12 := by rw [fi_fb]; exact fb_lt _
def fn_go (b : Nat → Bool) : Nat → Nat → Nat
  | 0, _ => 12
  | n + 1, k => if b k then k else fn_go b n (k + 1)
theorem fn_go_p (b : Nat → Bool) : ∀ n k, k + n = 12 → (fn_go b n k = 12 ∧ ∀ j, k ≤ j → j < 12 → b j = false) ∨ (k ≤ fn_go b n k ∧ fn_go b n k < 12 ∧ b (fn_go b n k) = true ∧ ∀ j, k ≤ j → j < fn_go b n k → b j = false) := by
  intro n
  induction n with
  | zero => intro k hk; exact Or.inl ⟨rfl, fun j h1 h2 => by omega⟩
  | succ n ih =>
    intro k hk
    unfold fn_go
    by_cases h : b k = true
    · rw [if_pos h]; exact Or.inr ⟨Nat.le_refl _, by omega, h, fun j h1 h2 => by omega⟩
    · rw [if_neg h]
      rcases ih (k + 1) (by omega) with ⟨a1, a2⟩ | ⟨a1, a2, a3, a4⟩
      · refine Or.inl ⟨a1, fun j h1 h2 => ?_⟩
        by_cases e : j = k
        · subst e; simpa using h
        · exact a2 j (by omega) h2
      · refine Or.inr ⟨by omega, a2, a3, fun j h1 h2 => ?_⟩
        by_cases e : j = k
        · subst e; simpa using h
        · exact a4 j (by omega) h2
def fn_ (b : Nat → Bool) : Nat := fn_go b 12 0
theorem fn_cases (b : Nat → Bool) : (fn_ b = 12 ∧ ∀ j, j < 12 → b j = false) ∨ (fn_ b < 12 ∧ fn_ b = fb_ b ∧ b (fb_ b) = true) := by
  rcases fn_go_p b 12 0 (by omega) with ⟨a1, a2⟩ | ⟨a1, a2, a3, a4⟩
  · exact Or.inl ⟨a1, fun j h => a2 j (by omega) h⟩
  · refine Or.inr ⟨a2, ?_, fb_at a2 a3⟩
    have h1 := fb_at a2 a3
    have h2 := fb_lt b
    rcases Nat.lt_trichotomy (fn_ b) (fb_ b) with h | h | h
    · have := fb_min h
      rw [show fn_ b = fn_go b 12 0 from rfl, a3] at this; cases this
    · exact h
    · have := a4 (fb_ b) (by omega) h
      rw [h1] at this; cases this
def nb_ (F : Nat → Nat → Int32) (c : Nat) (b : Int32) : Nat → Bool := fun k => decide (¬ F 87 (12 * c + k) ≤ 0 ∧ (if b = 0 then F 89 (12 * c + k) = 0 else ¬ nI k = nI (fi_ F c) ∧ F 90 (12 * c + k) = 0))
theorem nx_fn (F : Nat → Nat → Int32) (c : Nat) (b : Int32) : nx_ F c b = fn_ (nb_ F c b) := by
  have : ∀ n k, nx_go F c b (fi_ F c) n k = fn_go (nb_ F c b) n k := by
    intro n
    induction n with
    | zero => intro k; rfl
    | succ n ih =>
      intro k
      unfold nx_go fn_go
      by_cases h : ¬ F 87 (12 * c + k) ≤ 0 ∧ (if b = 0 then F 89 (12 * c + k) = 0 else ¬ nI k = nI (fi_ F c) ∧ F 90 (12 * c + k) = 0)
      · rw [if_pos h, if_pos (by unfold nb_; exact decide_eq_true h)]
      · rw [if_neg h, if_neg (by unfold nb_; simpa using h), ih]
  exact this 12 0
theorem tr_bs {F : Nat → Nat → Int32} {c : Nat} {y : Int32} {b : Nat → Bool} (hb : ∀ k, k < 12 → (b k = true ↔ (if y = 3 then ¬ F 87 (12 * c + k) ≤ 0 else ¬ F 89 (12 * c + k) = 0))) : bs_ (tr_go F c y 12 0 0) b := by
  have : ∀ n k z, k + n = 12 → bs_ z (fun j => decide (j < k) && b j) → bs_ (tr_go F c y n k z) b := by
    intro n
    induction n with
    | zero =>
      intro k z hk hz
      exact bs_ext hz (fun j hj => by simp [show j < k by omega])
    | succ n ih =>
      intro k z hk hz
      unfold tr_go
      have hyes : b k = true → bs_ (z + b1_ k) (fun j => decide (j < k + 1) && b j) := fun h => by
        refine bs_ext (bs_add (by omega) hz (by simp)) (fun j hj => ?_)
        by_cases e : j = k
        · subst e; simp [h]
        · simp only [e, decide_false, Bool.or_false]
          congr 1
          exact decide_eq_decide.mpr (by omega)
      have hno : b k = false → bs_ z (fun j => decide (j < k + 1) && b j) := fun h => by
        refine bs_ext hz (fun j hj => ?_)
        by_cases e : j = k
        · subst e; simp [h]
        · congr 1
          exact decide_eq_decide.mpr (by omega)
      have hk2 := hb k (by omega)
      by_cases e3 : y = 3
      · rw [if_pos e3] at hk2 ⊢
        by_cases h : F 87 (12 * c + k) ≤ 0
        · rw [if_pos h]
          exact ih _ _ (by omega) (hno (by cases hbk : b k with | false => rfl | true => exact absurd h (hk2.mp hbk)))
        · rw [if_neg h]
          exact ih _ _ (by omega) (hyes (hk2.mpr h))
      · rw [if_neg e3] at hk2 ⊢
        by_cases h : F 89 (12 * c + k) = 0
        · rw [if_pos h]
          exact ih _ _ (by omega) (hno (by cases hbk : b k with | false => rfl | true => exact absurd h (hk2.mp hbk)))
        · rw [if_neg h]
          exact ih _ _ (by omega) (hyes (hk2.mpr h))
  exact this 12 0 0 (by omega) (bs_ext bs_0 (fun j hj => by simp))
