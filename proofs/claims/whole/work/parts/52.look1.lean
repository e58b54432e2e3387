def sv_ (F : Nat → Nat → Int32) (i : Nat) (v : vv_) : Prop := ∃ k, k < rec_ F ∧ F 72 k = nI i ∧ ¬ F 75 k = 0 ∧ v = (F 73 k, F 74 k, F 75 k, F 76 k)
abbrev vr_ (v w : vv_) : Prop := w.1.toInt < v.1.toInt ∧ ¬ v.2.1 = w.2.1
def vl_ (F : Nat → Nat → Int32) (i : Nat) (V : List vv_) : Prop := V.Pairwise vr_ ∧ (∀ v, v ∈ V ↔ sv_ F i v) ∧ ∀ v ∈ V, v.2.2.1 = 1 ∨ v.2.2.1 = 2 ∨ v.2.2.1 = 3
theorem vr_uat : ∀ {V : List vv_}, V.Pairwise vr_ → ∀ {v w : vv_}, v ∈ V → w ∈ V → v.1 = w.1 → v = w := by
  intro V
  induction V with
  | nil => intro _ v w hv; cases hv
  | cons a V ih =>
    intro h v w hv hw e
    rw [List.pairwise_cons] at h
    rcases List.mem_cons.mp hv with rfl | hv
    · rcases List.mem_cons.mp hw with rfl | hw
      · rfl
      · have := (h.1 w hw).1; rw [e] at this; omega
    · rcases List.mem_cons.mp hw with rfl | hw
      · have := (h.1 v (by assumption)).1; rw [e] at this; omega
      · exact ih h.2 (by assumption) hw e
theorem vr_uby : ∀ {V : List vv_}, V.Pairwise vr_ → ∀ {v w : vv_}, v ∈ V → w ∈ V → v.2.1 = w.2.1 → v = w := by
  intro V
  induction V with
  | nil => intro _ v w hv; cases hv
  | cons a V ih =>
    intro h v w hv hw e
    rw [List.pairwise_cons] at h
    rcases List.mem_cons.mp hv with rfl | hv
    · rcases List.mem_cons.mp hw with rfl | hw
      · rfl
      · exact absurd e (h.1 w hw).2
    · rcases List.mem_cons.mp hw with rfl | hw
      · exact absurd e.symm (h.1 v (by assumption)).2
      · exact ih h.2 (by assumption) hw e
theorem rec_lt (F : Nat → Nat → Int32) : rec_ F < 2 ^ 31 := by
  unfold rec_
  have h1 := Int32.toInt_lt (F 60 11)
  have : (F 60 11).toNatClampNeg = (F 60 11).toInt.toNat := rfl
  omega
theorem vl_mem {F : Nat → Nat → Int32} {i : Nat} {V : List vv_} (h : vl_ F i V) {k : Nat} (hk : k < rec_ F) (h1 : F 72 k = nI i) (h2 : ¬ F 75 k = 0) : (F 73 k, F 74 k, F 75 k, F 76 k) ∈ V := (h.2.1 _).mpr ⟨k, hk, h1, h2, rfl⟩
theorem dc_go_p (F : Nat → Nat → Int32) (c x : Int32) : ∀ n k z, (dc_go F c x n k z = z ∧ ∀ j, k ≤ j → j < k + n → ¬ (F 72 j = c ∧ F 74 j = x ∧ (F 75 j = 1 ∨ F 75 j = 2))) ∨ ∃ j, k ≤ j ∧ j < k + n ∧ (F 72 j = c ∧ F 74 j = x ∧ (F 75 j = 1 ∨ F 75 j = 2)) ∧ dc_go F c x n k z = F 73 j := by
  intro n
  induction n with
  | zero => intro k z; exact Or.inl ⟨rfl, fun j h1 h2 => by omega⟩
  | succ n ih =>
    intro k z
    unfold dc_go
    by_cases h : F 72 k = c ∧ F 74 k = x ∧ (F 75 k = 1 ∨ F 75 k = 2)
    · rw [if_pos h]
      rcases ih (k + 1) (F 73 k) with ⟨a1, a2⟩ | ⟨j, a1, a2, a3, a4⟩
      · exact Or.inr ⟨k, Nat.le_refl _, by omega, h, a1⟩
      · exact Or.inr ⟨j, by omega, by omega, a3, a4⟩
    · rw [if_neg h]
      rcases ih (k + 1) z with ⟨a1, a2⟩ | ⟨j, a1, a2, a3, a4⟩
      · refine Or.inl ⟨a1, fun j h1 h2 => ?_⟩
        by_cases e : j = k
        · subst e; exact h
        · exact a2 j (by omega) (by omega)
      · exact Or.inr ⟨j, by omega, by omega, a3, a4⟩
theorem vwb_none : ∀ {V : List vv_} {x : Int32}, vwb_ x V = none → ∀ v ∈ V, v.2.2.1 = 3 ∨ ¬ v.2.1 = x := by
  intro V
  induction V with
  | nil => intro x _ v hv; cases hv
  | cons a V ih =>
    intro x h v hv
    unfold vwb_ at h
    by_cases h3 : a.2.2.1 = 3
    · rw [if_pos h3] at h
      rcases List.mem_cons.mp hv with rfl | hv
      · exact Or.inl h3
      · exact ih h v hv
    · rw [if_neg h3] at h
      by_cases hx : a.2.1 = x
      · rw [if_pos hx] at h; cases h
      · rw [if_neg hx] at h
        rcases List.mem_cons.mp hv with rfl | hv
        · exact Or.inr hx
        · exact ih h v hv
theorem vwb_some : ∀ {V : List vv_} {x : Int32} {v : vv_}, vwb_ x V = some v → v ∈ V ∧ ¬ v.2.2.1 = 3 ∧ v.2.1 = x := by
  intro V
  induction V with
  | nil => intro x v h; cases h
  | cons a V ih =>
    intro x v h
    unfold vwb_ at h
    by_cases h3 : a.2.2.1 = 3
    · rw [if_pos h3] at h
      obtain ⟨b1, b2⟩ := ih h
      exact ⟨List.mem_cons_of_mem _ b1, b2⟩
    · rw [if_neg h3] at h
      by_cases hx : a.2.1 = x
      · rw [if_pos hx] at h; cases h; exact ⟨List.mem_cons_self, h3, hx⟩
      · rw [if_neg hx] at h
        obtain ⟨b1, b2⟩ := ih h
        exact ⟨List.mem_cons_of_mem _ b1, b2⟩
theorem dc_none {F : Nat → Nat → Int32} {i : Nat} {V : List vv_} {x : Int32} (h : vl_ F i V) (hn : vwb_ x V = none) : dc_ F (nI i) x = 0 := by
  rcases dc_go_p F (nI i) x (rec_ F) 0 0 with ⟨a1, _⟩ | ⟨j, _, a2, ⟨b1, b2, b3⟩, _⟩
  · exact a1
  · exfalso
    have hm := vl_mem h (k := j) (by omega) b1 (by rcases b3 with e | e <;> rw [e] <;> decide)
    rcases vwb_none hn _ hm with e | e
    · rcases b3 with e' | e' <;> (rw [show ((F 73 j, F 74 j, F 75 j, F 76 j) : vv_).2.2.1 = F 75 j from rfl, e'] at e; exact absurd e (by decide))
    · exact e b2
theorem dc_some {F : Nat → Nat → Int32} {i : Nat} {V : List vv_} {x : Int32} {v : vv_} (h : vl_ F i V) (hn : vwb_ x V = some v) : dc_ F (nI i) x = v.1 := by
  obtain ⟨hv, h3, hx⟩ := vwb_some hn
  obtain ⟨k, k1, k2, k3, k4⟩ := (h.2.1 v).mp hv
  have k5 : F 75 k = 1 ∨ F 75 k = 2 := by
    have e : v.2.2.1 = F 75 k := by rw [k4]
    rw [← e]
    rcases h.2.2 v hv with e | e | e
    · exact Or.inl e
    · exact Or.inr e
    · exact absurd e h3
  have k6 : F 74 k = x := by rw [← hx, k4]
  rcases dc_go_p F (nI i) x (rec_ F) 0 0 with ⟨_, a2⟩ | ⟨j, _, a2, ⟨b1, b2, b3⟩, b4⟩
  · exact absurd ⟨k2, k6, k5⟩ (a2 k (by omega) (by omega))
  · have hm := vl_mem h (k := j) (by omega) b1 (by rcases b3 with e | e <;> rw [e] <;> decide)
    have := vr_uby h.1 hm hv (by show F 74 j = _; rw [b2, hx])
    unfold dc_
    rw [b4, ← this]
theorem ov_go_p (F : Nat → Nat → Int32) (c x : Int32) : ∀ n k z, (z = 0 ∨ z = 1) → (ov_go F c x n k z = 1 ∧ (z = 1 ∨ ∃ j, k ≤ j ∧ j < k + n ∧ (F 72 j = c ∧ (((F 75 j = 1 ∨ F 75 j = 2) ∧ ¬ F 73 j ≤ x) ∨ (F 75 j = 3 ∧ F 74 j = x))))) ∨ (ov_go F c x n k z = 0 ∧ z = 0 ∧ ∀ j, k ≤ j → j < k + n → ¬ (F 72 j = c ∧ (((F 75 j = 1 ∨ F 75 j = 2) ∧ ¬ F 73 j ≤ x) ∨ (F 75 j = 3 ∧ F 74 j = x)))) := by
  intro n
  induction n with
  | zero =>
    intro k z hz
    rcases hz with rfl | rfl
    · exact Or.inr ⟨rfl, rfl, fun j h1 h2 => by omega⟩
    · exact Or.inl ⟨rfl, Or.inl rfl⟩
  | succ n ih =>
    intro k z hz
    unfold ov_go
    by_cases h : ¬ z = 0 ∨ (F 72 k = c ∧ (((F 75 k = 1 ∨ F 75 k = 2) ∧ ¬ F 73 k ≤ x) ∨ (F 75 k = 3 ∧ F 74 k = x)))
    · rw [if_pos h]
      rcases ih (k + 1) 1 (Or.inr rfl) with ⟨a1, _⟩ | ⟨_, a2, _⟩
      · refine Or.inl ⟨a1, ?_⟩
        rcases h with h | h
        · rcases hz with e | e
          · exact absurd e h
          · exact Or.inl e
        · exact Or.inr ⟨k, Nat.le_refl _, by omega, h⟩
      · exact absurd a2 (by decide)
    · rw [if_neg h]
      have hz0 : z = 0 := by
        rcases hz with e | e
        · exact e
        · exact absurd (Or.inl (by rw [e]; decide)) h
      rcases ih (k + 1) 0 (Or.inl rfl) with ⟨a1, a2⟩ | ⟨a1, _, a3⟩
      · rcases a2 with e | ⟨j, b1, b2, b3⟩
        · exact absurd e (by decide)
        · exact Or.inl ⟨a1, Or.inr ⟨j, by omega, by omega, b3⟩⟩
      · refine Or.inr ⟨a1, hz0, fun j h1 h2 => ?_⟩
        by_cases e : j = k
        · subst e; exact fun hh => h (Or.inr hh)
        · exact a3 j (by omega) (by omega)
theorem ovc_p : ∀ (V : List vv_) (x : Int32), (ovc_ x V = 1 ∧ ∃ v ∈ V, (v.2.2.1 = 3 ∧ v.2.1 = x) ∨ (¬ v.2.2.1 = 3 ∧ ¬ v.1 ≤ x)) ∨ (ovc_ x V = 0 ∧ ∀ v ∈ V, ¬ ((v.2.2.1 = 3 ∧ v.2.1 = x) ∨ (¬ v.2.2.1 = 3 ∧ ¬ v.1 ≤ x))) := by
  intro V x
  induction V with
  | nil => exact Or.inr ⟨rfl, fun v hv => by cases hv⟩
  | cons a V ih =>
    unfold ovc_
    have step : ¬ ((a.2.2.1 = 3 ∧ a.2.1 = x) ∨ (¬ a.2.2.1 = 3 ∧ ¬ a.1 ≤ x)) → (ovc_ x V = 1 ∧ ∃ v ∈ a :: V, (v.2.2.1 = 3 ∧ v.2.1 = x) ∨ (¬ v.2.2.1 = 3 ∧ ¬ v.1 ≤ x)) ∨ (ovc_ x V = 0 ∧ ∀ v ∈ a :: V, ¬ ((v.2.2.1 = 3 ∧ v.2.1 = x) ∨ (¬ v.2.2.1 = 3 ∧ ¬ v.1 ≤ x))) := fun hn => by
      rcases ih with ⟨a1, v, hv, a2⟩ | ⟨a1, a2⟩
      · exact Or.inl ⟨a1, v, List.mem_cons_of_mem _ hv, a2⟩
      · refine Or.inr ⟨a1, fun v hv => ?_⟩
        rcases List.mem_cons.mp hv with rfl | hv
        · exact hn
        · exact a2 v hv
    by_cases h3 : a.2.2.1 = 3
    · rw [if_pos h3]
      by_cases hx : a.2.1 = x
      · rw [if_pos hx]; exact Or.inl ⟨rfl, a, List.mem_cons_self, Or.inl ⟨h3, hx⟩⟩
      · rw [if_neg hx]; exact step (fun h => h.elim (fun h => hx h.2) (fun h => h.1 h3))
    · rw [if_neg h3]
      by_cases hx : a.1 ≤ x
      · rw [if_pos hx]; exact step (fun h => h.elim (fun h => h3 h.1) (fun h => h.2 hx))
      · rw [if_neg hx]; exact Or.inl ⟨rfl, a, List.mem_cons_self, Or.inr ⟨h3, hx⟩⟩
theorem ov_eq {F : Nat → Nat → Int32} {i : Nat} {V : List vv_} (h : vl_ F i V) (x : Int32) : ov_ F (nI i) x = ovc_ x V := by
  rcases ovc_p V x with ⟨a1, v, hv, a2⟩ | ⟨a1, a2⟩
  · rw [a1]
    obtain ⟨k, k1, k2, k3, k4⟩ := (h.2.1 v).mp hv
    rcases ov_go_p F (nI i) x (rec_ F) 0 0 (Or.inl rfl) with ⟨b1, _⟩ | ⟨_, _, b3⟩
    · exact b1
    · exfalso
      refine b3 k (by omega) (by omega) ⟨k2, ?_⟩
      have e1 : v.2.2.1 = F 75 k := by rw [k4]
      have e2 : v.2.1 = F 74 k := by rw [k4]
      have e3 : v.1 = F 73 k := by rw [k4]
      rcases a2 with ⟨c1, c2⟩ | ⟨c1, c2⟩
      · exact Or.inr ⟨by rw [← e1]; exact c1, by rw [← e2]; exact c2⟩
      · refine Or.inl ⟨?_, by rw [← e3]; exact c2⟩
        rw [← e1]
        rcases h.2.2 v hv with e | e | e
        · exact Or.inl e
        · exact Or.inr e
        · exact absurd e c1
  · rw [a1]
    rcases ov_go_p F (nI i) x (rec_ F) 0 0 (Or.inl rfl) with ⟨_, b2⟩ | ⟨b1, _⟩
    · exfalso
      rcases b2 with e | ⟨j, _, b3, c1, c2⟩
      · exact absurd e (by decide)
      · have hl : ¬ F 75 j = 0 := by
          rcases c2 with ⟨e | e, _⟩ | ⟨e, _⟩ <;> rw [e] <;> decide
        refine a2 _ (vl_mem h (by omega) c1 hl) ?_
        rcases c2 with ⟨e, e2⟩ | ⟨e, e2⟩
        · exact Or.inr ⟨(by rcases e with e | e <;> (show ¬ F 75 j = 3) <;> rw [e] <;> decide), e2⟩
        · exact Or.inl ⟨e, e2⟩
    · exact b1
