theorem si_go_eq (c w z : Int32) : ∀ n k (F : Nat → Nat → Int32) a j, si_go c w z n k F a j = if a = 75 ∧ k ≤ j ∧ j < k + n ∧ F 72 j = c ∧ ¬ w ≤ F 73 j ∧ ¬ nI j = z then 0 else F a j := by
  intro n
  induction n with
  | zero =>
    intro k F a j
    rw [if_neg (fun h => by omega)]
    rfl
  | succ n ih =>
    intro k F a j
    unfold si_go
    rw [ih]
    have e72 : ∀ j, (if F 72 k = c then (if w ≤ F 73 k then F else if nI k = z then F else uf_ F 75 k 0) else F) 72 j = F 72 j := by
      intro j; split
      · split
        · rfl
        · split
          · rfl
          · rw [uf_o _ _ _ _ _ _ (by omega)]
      · rfl
    have e73 : ∀ j, (if F 72 k = c then (if w ≤ F 73 k then F else if nI k = z then F else uf_ F 75 k 0) else F) 73 j = F 73 j := by
      intro j; split
      · split
        · rfl
        · split
          · rfl
          · rw [uf_o _ _ _ _ _ _ (by omega)]
      · rfl
    rw [e72, e73]
    by_cases h : a = 75 ∧ k + 1 ≤ j ∧ j < k + 1 + n ∧ F 72 j = c ∧ ¬ w ≤ F 73 j ∧ ¬ nI j = z
    · rw [if_pos h, if_pos ⟨h.1, by omega, by omega, h.2.2.2⟩]
    · rw [if_neg h]
      by_cases e : a = 75 ∧ j = k
      · obtain ⟨rfl, rfl⟩ := e
        by_cases h1 : F 72 j = c
        · by_cases h2 : w ≤ F 73 j
          · rw [if_pos h1, if_pos h2, if_neg (fun hh => hh.2.2.2.2.1 h2)]
          · by_cases h3 : nI j = z
            · rw [if_pos h1, if_neg h2, if_pos h3, if_neg (fun hh => hh.2.2.2.2.2 h3)]
            · rw [if_pos h1, if_neg h2, if_neg h3, uf_s, if_pos ⟨rfl, Nat.le_refl _, by omega, h1, h2, h3⟩]
        · rw [if_neg h1, if_neg (fun hh => h1 hh.2.2.2.1)]
      · have hneg : ¬ (a = 75 ∧ k ≤ j ∧ j < k + (n + 1) ∧ F 72 j = c ∧ ¬ w ≤ F 73 j ∧ ¬ nI j = z) := fun hh => h ⟨hh.1, by have := hh.2.1; have : j ≠ k := fun e2 => e ⟨hh.1, e2⟩; omega, by have := hh.2.2.1; omega, hh.2.2.2⟩
        rw [if_neg hneg]
        split
        · split
          · rfl
          · split
            · rfl
            · rw [uf_o _ _ _ _ _ _ (by omega)]
        · rfl
theorem fg_sub (x : Int32) : ∀ (V : List vv_) (b k : Int32), List.Sublist (fg_ x V b k).1 V := by
  intro V
  induction V with
  | nil => intro b k; exact List.Sublist.refl _
  | cons a V ih =>
    intro b k
    unfold fg_
    split
    · exact (ih b k).cons₂ a
    · split
      · split
        · exact (ih 1 k).cons₂ a
        · exact (ih 1 (k - 1)).cons a
      · split
        · exact (ih b (k - 1)).cons a
        · exact (ih 1 (k - 1)).cons a
theorem fg_cnt (x : Int32) : ∀ (V : List vv_) (b : Int32) (m : Nat), (fg_ x V b (nI (m + V.length))).2 = nI (m + (fg_ x V b (nI (m + V.length))).1.length) := by
  intro V
  induction V with
  | nil => intro b m; rfl
  | cons a V ih =>
    intro b m
    have e1 : nI (m + (a :: V).length) = nI ((m + 1) + V.length) := by congr 1; rw [List.length_cons]; omega
    have e2 : nI (m + (a :: V).length) - 1 = nI (m + V.length) := by rw [List.length_cons, show m + (V.length + 1) = (m + V.length) + 1 from by omega, nI_pred]
    unfold fg_
    split
    · rw [e1, List.length_cons, ih b (m + 1)]; congr 1; omega
    · split
      · split
        · rw [e1, List.length_cons, ih 1 (m + 1)]; congr 1; omega
        · rw [e2]; exact ih 1 m
      · split
        · rw [e2]; exact ih b m
        · rw [e2]; exact ih 1 m
theorem fg_mem (x : Int32) : ∀ (V : List vv_) (b k : Int32) (v : vv_), (∀ v ∈ V, v.2.2.1 = 1 ∨ v.2.2.1 = 2 ∨ v.2.2.1 = 3) → (v ∈ (fg_ x V b k).1 ↔ (v ∈ V ∧ x ≤ v.1) ∨ (b = 0 ∧ lwb_ x V = some v ∧ v.2.2.1 = 1)) := by
  intro V
  induction V with
  | nil =>
    intro b k v _
    show v ∈ ([] : List vv_) ↔ _
    constructor
    · intro h; cases h
    · rintro (⟨h, _⟩ | ⟨_, h, _⟩)
      · cases h
      · cases h
  | cons a V ih =>
    intro b k v hk
    have ih := fun b k => ih b k v (fun v hv => hk v (List.mem_cons_of_mem _ hv))
    unfold fg_
    by_cases h1 : x ≤ a.1
    · rw [if_pos h1]
      have hl : lwb_ x (a :: V) = lwb_ x V := by
        show (if a.2.2.1 = 3 then lwb_ x V else if x ≤ a.1 then lwb_ x V else some a) = _
        rw [if_pos h1]; split <;> rfl
      rw [hl, List.mem_cons, ih, List.mem_cons]
      constructor
      · rintro (rfl | ⟨h, h2⟩ | h)
        · exact Or.inl ⟨Or.inl rfl, h1⟩
        · exact Or.inl ⟨Or.inr h, h2⟩
        · exact Or.inr h
      · rintro (⟨rfl | h, h2⟩ | h)
        · exact Or.inl rfl
        · exact Or.inr (Or.inl ⟨h, h2⟩)
        · exact Or.inr (Or.inr h)
    · rw [if_neg h1]
      have hmem : (v ∈ a :: V ∧ x ≤ v.1) ↔ (v ∈ V ∧ x ≤ v.1) := by
        rw [List.mem_cons]
        constructor
        · rintro ⟨rfl | h, h2⟩
          · exact absurd h2 h1
          · exact ⟨h, h2⟩
        · rintro ⟨h, h2⟩; exact ⟨Or.inr h, h2⟩
      have one0 : ¬ ((1 : Int32) = 0) := by decide
      by_cases h2 : a.2.2.1 = 1
      · rw [if_pos h2]
        have hl : lwb_ x (a :: V) = some a := by
          show (if a.2.2.1 = 3 then lwb_ x V else if x ≤ a.1 then lwb_ x V else some a) = _
          rw [if_neg (by rw [h2]; decide), if_neg h1]
        rw [hl, hmem]
        by_cases hb : b = 0
        · rw [if_pos hb, List.mem_cons, ih]
          constructor
          · rintro (rfl | h | h)
            · exact Or.inr ⟨hb, rfl, h2⟩
            · exact Or.inl h
            · exact absurd h.1 one0
          · rintro (h | ⟨_, h, _⟩)
            · exact Or.inr (Or.inl h)
            · cases h; exact Or.inl rfl
        · rw [if_neg hb, ih]
          constructor
          · rintro (h | h)
            · exact Or.inl h
            · exact absurd h.1 one0
          · rintro (h | h)
            · exact Or.inl h
            · exact absurd h.1 hb
      · rw [if_neg h2]
        by_cases h3 : a.2.2.1 = 3
        · rw [if_pos h3, ih, hmem]
          have hl : lwb_ x (a :: V) = lwb_ x V := by
            show (if a.2.2.1 = 3 then lwb_ x V else if x ≤ a.1 then lwb_ x V else some a) = _
            rw [if_pos h3]
          rw [hl]
        · rw [if_neg h3, ih, hmem]
          have hl : lwb_ x (a :: V) = some a := by
            show (if a.2.2.1 = 3 then lwb_ x V else if x ≤ a.1 then lwb_ x V else some a) = _
            rw [if_neg h3, if_neg h1]
          rw [hl]
          constructor
          · rintro (h | h)
            · exact Or.inl h
            · exact absurd h.1 one0
          · rintro (h | ⟨_, h, h4⟩)
            · exact Or.inl h
            · cases h; exact absurd h4 h2
theorem sz_nk {F : Nat → Nat → Int32} {i : Nat} {V : List vv_} {w : Int32} (h : vl_ F i V) {k : Nat} (hk : k < rec_ F) (h1 : F 72 k = nI i) (h2 : ¬ F 75 k = 0) (hw : ¬ w ≤ F 73 k) (e : nI k = sz_ F (nI i) w) : lwb_ w V = some (tp_ F k) ∧ (tp_ F k).2.2.1 = 1 := by
  have hrl := rec_lt F
  unfold sz_ at e
  cases hl : lwb_ w V with
  | none =>
    rw [la_none h hl, if_pos (by decide)] at e
    exact absurd (by rw [e]; decide) (nI_pos (n := k) (by omega))
  | some v =>
    obtain ⟨j, j1, j2, j3⟩ := la_some h hl
    rw [j2, if_neg (nI_pos (by omega)), nI_clamp (by omega)] at e
    by_cases e2 : F 75 j = 2
    · rw [if_pos e2] at e
      exact absurd (by rw [e]; decide) (nI_pos (n := k) (by omega))
    · rw [if_neg e2] at e
      have hkj : k = j := (nI_eq (by omega) (by omega)).mp e
      subst hkj
      refine ⟨by rw [j3], ?_⟩
      have hm := lwb_some h.1 hl
      rcases h.2.2 v hm.1 with q | q | q
      · rw [← j3]; exact q
      · rw [j3] at q; exact absurd q e2
      · exact absurd q hm.2.1
theorem sz_kept {F : Nat → Nat → Int32} {i : Nat} {V : List vv_} {w : Int32} {v : vv_} (h : vl_ F i V) (hl : lwb_ w V = some v) (h1 : v.2.2.1 = 1) : ∃ k, k < rec_ F ∧ F 72 k = nI i ∧ v = tp_ F k ∧ nI k = sz_ F (nI i) w := by
  have hrl := rec_lt F
  obtain ⟨j, j1, j2, j3⟩ := la_some h hl
  have hp : F 72 j = nI i := by
    rw [la_nw] at j2
    rcases nw_p F (lp_ F (nI i) w) with ⟨q, _⟩ | ⟨j', q1, q2, q3, _⟩
    · rw [q] at j2
      exact absurd (by rw [← j2]; decide) (nI_pos (n := j) (by omega))
    · rw [q2] at j2
      rw [← (nI_eq (by omega) (by omega)).mp j2]
      exact (of_decide_eq_true q3).1
  refine ⟨j, j1, hp, j3, ?_⟩
  unfold sz_
  rw [j2, if_neg (nI_pos (by omega)), nI_clamp (by omega), if_neg]
  rw [j3] at h1
  rw [show F 75 j = 1 from h1]; decide
def sc_ (F : Nat → Nat → Int32) (i : Nat) (w : Int32) : Nat → Nat → Int32 := si_go (nI i) w (sz_ F (nI i) w) (rec_ F) 0 F
theorem sc_o {F : Nat → Nat → Int32} {i : Nat} {w : Int32} {a j : Nat} (h : a ≠ 75) : sc_ F i w a j = F a j := by
  unfold sc_; rw [si_go_eq, if_neg (fun hh => h hh.1)]
theorem sc_row {F : Nat → Nat → Int32} {i : Nat} {w : Int32} {a : Nat} (h : a ≠ 75) : sc_ F i w a = F a := funext fun j => sc_o h
theorem sc_rec {F : Nat → Nat → Int32} {i : Nat} {w : Int32} : rec_ (sc_ F i w) = rec_ F := by unfold rec_; rw [sc_o (by omega)]
theorem sc_75 {F : Nat → Nat → Int32} {i : Nat} {w : Int32} {j : Nat} : sc_ F i w 75 j = if j < rec_ F ∧ F 72 j = nI i ∧ ¬ w ≤ F 73 j ∧ ¬ nI j = sz_ F (nI i) w then 0 else F 75 j := by
  unfold sc_
  rw [si_go_eq]
  by_cases h : j < rec_ F ∧ F 72 j = nI i ∧ ¬ w ≤ F 73 j ∧ ¬ nI j = sz_ F (nI i) w
  · rw [if_pos h, if_pos ⟨rfl, by omega, by omega, h.2⟩]
  · rw [if_neg h, if_neg (fun hh => h ⟨by omega, hh.2.2.2⟩)]
theorem sc_vl {F : Nat → Nat → Int32} {i : Nat} {V : List vv_} {w k : Int32} (h : vl_ F i V) : vl_ (sc_ F i w) i (fg_ w V 0 k).1 := by
  refine ⟨h.1.sublist (fg_sub w V 0 k), fun v => ?_, fun v hv => h.2.2 v ((fg_sub w V 0 k).subset hv)⟩
  rw [fg_mem w V 0 k v h.2.2]
  have tp : ∀ j, ¬ sc_ F i w 75 j = 0 → (sc_ F i w 73 j, sc_ F i w 74 j, sc_ F i w 75 j, sc_ F i w 76 j) = tp_ F j := fun j hj => by
    rw [sc_o (a := 73) (by omega), sc_o (a := 74) (by omega), sc_o (a := 76) (by omega)]
    rw [sc_75] at hj ⊢
    split
    · rename_i hh; rw [if_pos hh] at hj; exact absurd rfl hj
    · rfl
  constructor
  · rintro (⟨hv, hw⟩ | ⟨_, hl, h1⟩)
    · obtain ⟨j, j1, j2, j3, j4⟩ := (h.2.1 v).mp hv
      have e : v.1 = F 73 j := by rw [j4]
      have h75 : sc_ F i w 75 j = F 75 j := by rw [sc_75, if_neg (fun hh => hh.2.2.1 (by rw [← e]; exact hw))]
      exact ⟨j, by rw [sc_rec]; exact j1, by rw [sc_o (by omega)]; exact j2, by rw [h75]; exact j3, by rw [tp j (by rw [h75]; exact j3)]; exact j4⟩
    · obtain ⟨j, j1, j2, j3, j4⟩ := sz_kept h hl h1
      have h75 : sc_ F i w 75 j = F 75 j := by rw [sc_75, if_neg (fun hh => hh.2.2.2 j4)]
      have h0 : ¬ F 75 j = 0 := by
        have : F 75 j = 1 := by rw [← h1, j3]; rfl
        rw [this]; decide
      exact ⟨j, by rw [sc_rec]; exact j1, by rw [sc_o (by omega)]; exact j2, by rw [h75]; exact h0, by rw [tp j (by rw [h75]; exact h0)]; exact j3⟩
  · rintro ⟨j, j1, j2, j3, j4⟩
    rw [tp j j3] at j4
    rw [sc_rec] at j1
    rw [sc_o (by omega)] at j2
    have j5 : ¬ (j < rec_ F ∧ F 72 j = nI i ∧ ¬ w ≤ F 73 j ∧ ¬ nI j = sz_ F (nI i) w) := fun hh => by
      rw [sc_75, if_pos hh] at j3; exact j3 rfl
    rw [sc_75, if_neg j5] at j3
    by_cases hw : w ≤ F 73 j
    · refine Or.inl ⟨?_, ?_⟩
      · rw [j4]; exact vl_mem h j1 j2 j3
      · rw [j4]; exact hw
    · have e : nI j = sz_ F (nI i) w := Classical.byContradiction fun hh => j5 ⟨j1, j2, hw, hh⟩
      obtain ⟨q1, q2⟩ := sz_nk h j1 j2 j3 hw e
      exact Or.inr ⟨rfl, by rw [q1, j4], by rw [j4]; exact q2⟩
theorem sc_vlo {F : Nat → Nat → Int32} {i i' : Nat} {V : List vv_} {w : Int32} (hi : i < 12) (hi' : i' < 12) (hne : i' ≠ i) (h : vl_ F i' V) : vl_ (sc_ F i w) i' V := by
  refine ⟨h.1, fun v => ?_, h.2.2⟩
  rw [h.2.1 v]
  have key : ∀ j, F 72 j = nI i' → sc_ F i w 75 j = F 75 j := fun j hj => by
    rw [sc_75, if_neg (fun hh => hne ((nI_eq (by omega) (by omega)).mp (hj.symm.trans hh.2.1)))]
  constructor
  · rintro ⟨j, j1, j2, j3, j4⟩
    exact ⟨j, by rw [sc_rec]; exact j1, by rw [sc_o (by omega)]; exact j2, by rw [key j j2]; exact j3, by rw [key j j2, sc_o (by omega), sc_o (by omega), sc_o (by omega)]; exact j4⟩
  · rintro ⟨j, j1, j2, j3, j4⟩
    rw [sc_o (by omega)] at j2
    rw [key j j2] at j3
    rw [key j j2, sc_o (by omega), sc_o (by omega), sc_o (by omega)] at j4
    exact ⟨j, by rw [sc_rec] at j1; exact j1, j2, j3, j4⟩
