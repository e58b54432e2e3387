def tp_ (F : Nat → Nat → Int32) (k : Nat) : vv_ := (F 73 k, F 74 k, F 75 k, F 76 k)
def nw_go (F : Nat → Nat → Int32) (p : Nat → Bool) : Nat → Nat → Int32 → Int32
  | 0, _, z => z
  | n + 1, k, z => nw_go F p n (k + 1) (if p k = true ∧ (z < 0 ∨ ¬ F 73 k ≤ F 73 z.toNatClampNeg) then nI k else z)
def nwi_ (F : Nat → Nat → Int32) (p : Nat → Bool) (k : Nat) (z : Int32) : Prop := (z = -1 ∧ ∀ j, j < k → p j = false) ∨ ∃ j, j < k ∧ z = nI j ∧ p j = true ∧ ∀ j', j' < k → p j' = true → (F 73 j').toInt ≤ (F 73 j).toInt
theorem nw_go_p (F : Nat → Nat → Int32) (p : Nat → Bool) : ∀ n k z, k + n < 2 ^ 31 → nwi_ F p k z → nwi_ F p (k + n) (nw_go F p n k z) := by
  intro n
  induction n with
  | zero => intro k z _ h; exact h
  | succ n ih =>
    intro k z hk h
    unfold nw_go
    have : nwi_ F p (k + 1) (if p k = true ∧ (z < 0 ∨ ¬ F 73 k ≤ F 73 z.toNatClampNeg) then nI k else z) := by
      by_cases hp : p k = true
      · rcases h with ⟨h1, h2⟩ | ⟨j, h1, h2, h3, h4⟩
        · rw [if_pos ⟨hp, Or.inl (by rw [h1]; decide)⟩]
          refine Or.inr ⟨k, by omega, rfl, hp, fun j' hj' hpj => ?_⟩
          by_cases e : j' = k
          · subst e; exact Int.le_refl _
          · rw [h2 j' (by omega)] at hpj; cases hpj
        · have hc : z.toNatClampNeg = j := by rw [h2, nI_clamp (by omega)]
          by_cases hle : F 73 k ≤ F 73 z.toNatClampNeg
          · rw [if_neg (fun hh => hh.2.elim (fun hz => by rw [h2] at hz; exact nI_pos (by omega) hz) (fun hz => hz hle))]
            rw [hc] at hle
            refine Or.inr ⟨j, by omega, h2, h3, fun j' hj' hpj => ?_⟩
            by_cases e : j' = k
            · subst e; exact Int32.le_iff_toInt_le.mp hle
            · exact h4 j' (by omega) hpj
          · rw [if_pos ⟨hp, Or.inr hle⟩]
            rw [hc, Int32.le_iff_toInt_le] at hle
            refine Or.inr ⟨k, by omega, rfl, hp, fun j' hj' hpj => ?_⟩
            by_cases e : j' = k
            · subst e; exact Int.le_refl _
            · have := h4 j' (by omega) hpj; omega
      · rw [if_neg (fun hh => hp hh.1)]
        have hpf : p k = false := by simpa using hp
        rcases h with ⟨h1, h2⟩ | ⟨j, h1, h2, h3, h4⟩
        · refine Or.inl ⟨h1, fun j' hj' => ?_⟩
          by_cases e : j' = k
          · subst e; exact hpf
          · exact h2 j' (by omega)
        · refine Or.inr ⟨j, by omega, h2, h3, fun j' hj' hpj => ?_⟩
          by_cases e : j' = k
          · subst e; rw [hpf] at hpj; cases hpj
          · exact h4 j' (by omega) hpj
    have := ih (k + 1) _ (by omega) this
    rw [show k + 1 + n = k + (n + 1) from by omega] at this
    exact this
theorem nw_p (F : Nat → Nat → Int32) (p : Nat → Bool) : nwi_ F p (rec_ F) (nw_go F p (rec_ F) 0 (-1)) := by
  have := nw_go_p F p (rec_ F) 0 (-1) (by have := rec_lt F; omega) (Or.inl ⟨rfl, fun j h => by omega⟩)
  rwa [Nat.zero_add] at this
def lp_ (F : Nat → Nat → Int32) (c x : Int32) : Nat → Bool := fun k => decide (F 72 k = c ∧ (F 75 k = 1 ∨ F 75 k = 2) ∧ ¬ x ≤ F 73 k)
theorem la_nw (F : Nat → Nat → Int32) (c x : Int32) : la_ F c x = nw_go F (lp_ F c x) (rec_ F) 0 (-1) := by
  have : ∀ n k z, la_go F c x n k z = nw_go F (lp_ F c x) n k z := by
    intro n
    induction n with
    | zero => intro k z; rfl
    | succ n ih =>
      intro k z
      unfold la_go nw_go
      rw [ih]
      congr 1
      by_cases h : (F 72 k = c ∧ (F 75 k = 1 ∨ F 75 k = 2) ∧ ¬ x ≤ F 73 k) ∧ (z < 0 ∨ ¬ F 73 k ≤ F 73 z.toNatClampNeg)
      · rw [if_pos h, if_pos ⟨decide_eq_true h.1, h.2⟩]
      · rw [if_neg h, if_neg (fun hh => h ⟨of_decide_eq_true hh.1, hh.2⟩)]
  exact this _ _ _
def rp2_ (F : Nat → Nat → Int32) (c x : Int32) : Nat → Bool := fun k => decide (F 72 k = c ∧ ¬ F 75 k ≤ 0 ∧ ¬ x ≤ F 73 k)
theorem rc_nw (F : Nat → Nat → Int32) (c x : Int32) : rc_ F c x = nw_go F (rp2_ F c x) (rec_ F) 0 (-1) := by
  have : ∀ n k z, rc_go F c x n k z = nw_go F (rp2_ F c x) n k z := by
    intro n
    induction n with
    | zero => intro k z; rfl
    | succ n ih =>
      intro k z
      unfold rc_go nw_go
      rw [ih]
      congr 1
      by_cases h1 : F 72 k = c
      · by_cases h2 : F 75 k ≤ 0
        · rw [if_pos h1, if_pos h2, if_neg (fun hh => (of_decide_eq_true hh.1).2.1 h2)]
        · by_cases h3 : x ≤ F 73 k
          · rw [if_pos h1, if_neg h2, if_pos h3, if_neg (fun hh => (of_decide_eq_true hh.1).2.2 h3)]
          · rw [if_pos h1, if_neg h2, if_neg h3]
            have hp : rp2_ F c x k = true := decide_eq_true ⟨h1, h2, h3⟩
            by_cases h4 : z < 0
            · rw [if_pos h4, if_pos ⟨hp, Or.inl h4⟩]
            · by_cases h5 : F 73 k ≤ F 73 z.toNatClampNeg
              · rw [if_neg h4, if_pos h5, if_neg (fun hh => hh.2.elim h4 (fun q => q h5))]
              · rw [if_neg h4, if_neg h5, if_pos ⟨hp, Or.inr h5⟩]
      · rw [if_neg h1, if_neg (fun hh => h1 (of_decide_eq_true hh.1).1)]
  exact this _ _ _
theorem lwb_none : ∀ {V : List vv_} {x : Int32}, lwb_ x V = none → ∀ v ∈ V, v.2.2.1 = 3 ∨ x ≤ v.1 := by
  intro V
  induction V with
  | nil => intro x _ v hv; cases hv
  | cons a V ih =>
    intro x h v hv
    unfold lwb_ at h
    by_cases h3 : a.2.2.1 = 3
    · rw [if_pos h3] at h
      rcases List.mem_cons.mp hv with rfl | hv
      · exact Or.inl h3
      · exact ih h v hv
    · rw [if_neg h3] at h
      by_cases hx : x ≤ a.1
      · rw [if_pos hx] at h
        rcases List.mem_cons.mp hv with rfl | hv
        · exact Or.inr hx
        · exact ih h v hv
      · rw [if_neg hx] at h; cases h
theorem lwb_some : ∀ {V : List vv_} {x : Int32} {v : vv_}, V.Pairwise vr_ → lwb_ x V = some v → v ∈ V ∧ ¬ v.2.2.1 = 3 ∧ ¬ x ≤ v.1 ∧ ∀ w ∈ V, ¬ w.2.2.1 = 3 → ¬ x ≤ w.1 → w.1.toInt ≤ v.1.toInt := by
  intro V
  induction V with
  | nil => intro x v _ h; cases h
  | cons a V ih =>
    intro x v hp h
    rw [List.pairwise_cons] at hp
    unfold lwb_ at h
    by_cases h3 : a.2.2.1 = 3
    · rw [if_pos h3] at h
      obtain ⟨b1, b2, b3, b4⟩ := ih hp.2 h
      refine ⟨List.mem_cons_of_mem _ b1, b2, b3, fun w hw hw3 hwx => ?_⟩
      rcases List.mem_cons.mp hw with rfl | hw
      · exact absurd h3 hw3
      · exact b4 w hw hw3 hwx
    · rw [if_neg h3] at h
      by_cases hx : x ≤ a.1
      · rw [if_pos hx] at h
        obtain ⟨b1, b2, b3, b4⟩ := ih hp.2 h
        refine ⟨List.mem_cons_of_mem _ b1, b2, b3, fun w hw hw3 hwx => ?_⟩
        rcases List.mem_cons.mp hw with rfl | hw
        · exact absurd hx hwx
        · exact b4 w hw hw3 hwx
      · rw [if_neg hx] at h
        cases h
        refine ⟨List.mem_cons_self, h3, hx, fun w hw hw3 hwx => ?_⟩
        rcases List.mem_cons.mp hw with rfl | hw
        · exact Int.le_refl _
        · have := (hp.1 w hw).1; omega
theorem vl_lp {F : Nat → Nat → Int32} {i : Nat} {V : List vv_} (h : vl_ F i V) {x : Int32} {v : vv_} (hv : v ∈ V) (h3 : ¬ v.2.2.1 = 3) (hx : ¬ x ≤ v.1) : ∃ k, k < rec_ F ∧ lp_ F (nI i) x k = true ∧ v = tp_ F k := by
  obtain ⟨k, k1, k2, k3, k4⟩ := (h.2.1 v).mp hv
  refine ⟨k, k1, decide_eq_true ⟨k2, ?_, ?_⟩, k4⟩
  · have e : v.2.2.1 = F 75 k := by rw [k4]
    rw [← e]
    rcases h.2.2 v hv with e | e | e
    · exact Or.inl e
    · exact Or.inr e
    · exact absurd e h3
  · have e : v.1 = F 73 k := by rw [k4]
    rw [← e]; exact hx
theorem lp_vl {F : Nat → Nat → Int32} {i : Nat} {V : List vv_} (h : vl_ F i V) {x : Int32} {k : Nat} (hk : k < rec_ F) (hp : lp_ F (nI i) x k = true) : tp_ F k ∈ V ∧ ¬ (tp_ F k).2.2.1 = 3 ∧ ¬ x ≤ (tp_ F k).1 := by
  obtain ⟨h1, h2, h3⟩ := of_decide_eq_true hp
  refine ⟨vl_mem h hk h1 (by rcases h2 with e | e <;> rw [e] <;> decide), ?_, h3⟩
  show ¬ F 75 k = 3
  rcases h2 with e | e <;> rw [e] <;> decide
theorem la_none {F : Nat → Nat → Int32} {i : Nat} {V : List vv_} {x : Int32} (h : vl_ F i V) (hn : lwb_ x V = none) : la_ F (nI i) x = -1 := by
  rw [la_nw]
  rcases nw_p F (lp_ F (nI i) x) with ⟨h1, _⟩ | ⟨j, h1, _, h3, _⟩
  · exact h1
  · obtain ⟨a1, a2, a3⟩ := lp_vl h h1 h3
    rcases lwb_none hn _ a1 with e | e
    · exact absurd e a2
    · exact absurd e a3
theorem la_some {F : Nat → Nat → Int32} {i : Nat} {V : List vv_} {x : Int32} {v : vv_} (h : vl_ F i V) (hn : lwb_ x V = some v) : ∃ k, k < rec_ F ∧ la_ F (nI i) x = nI k ∧ v = tp_ F k := by
  obtain ⟨a1, a2, a3, a4⟩ := lwb_some h.1 hn
  obtain ⟨k, k1, k2, k3⟩ := vl_lp h a1 a2 a3
  rw [la_nw]
  rcases nw_p F (lp_ F (nI i) x) with ⟨_, h2⟩ | ⟨j, h1, h2, h3, h4⟩
  · rw [h2 k k1] at k2; cases k2
  · obtain ⟨b1, b2, b3⟩ := lp_vl h h1 h3
    refine ⟨j, h1, h2, ?_⟩
    have c1 := a4 _ b1 b2 b3
    have c2 := h4 k k1 k2
    have : v.1 = (tp_ F j).1 := by
      apply Int32.toInt_inj.mp
      have e : v.1 = F 73 k := by rw [k3]; rfl
      rw [e] at c1 ⊢
      show (F 73 k).toInt = (F 73 j).toInt
      have c3 : (F 73 j).toInt ≤ (F 73 k).toInt := c1
      omega
    exact vr_uat h.1 a1 b1 this
theorem rc_cons {F : Nat → Nat → Int32} {i : Nat} {V pre suf : List vv_} {v : vv_} {b : Int32} (h : vl_ F i V) (hV : V = pre ++ v :: suf) (hpre : ∀ w ∈ pre, b ≤ w.1) (hv : ¬ b ≤ v.1) : ∃ k, k < rec_ F ∧ rc_ F (nI i) b = nI k ∧ v = tp_ F k := by
  have hvV : v ∈ V := by rw [hV]; simp
  have hlive : ∀ k, k < rec_ F → F 72 k = nI i → (¬ F 75 k ≤ 0 ↔ ¬ F 75 k = 0) := fun k hk h1 => by
    constructor
    · intro hh e; exact hh (by rw [e]; decide)
    · intro hh
      have := h.2.2 _ (vl_mem h hk h1 hh)
      rcases this with e | e | e <;> (rw [show F 75 k = _ from e]; decide)
  obtain ⟨k, k1, k2, k3, k4⟩ := (h.2.1 v).mp hvV
  have kp : rp2_ F (nI i) b k = true := decide_eq_true ⟨k2, (hlive k k1 k2).mpr k3, by rw [show F 73 k = v.1 from by rw [k4]]; exact hv⟩
  rw [rc_nw]
  rcases nw_p F (rp2_ F (nI i) b) with ⟨_, h2⟩ | ⟨j, h1, h2, h3, h4⟩
  · rw [h2 k k1] at kp; cases kp
  · refine ⟨j, h1, h2, ?_⟩
    obtain ⟨b1, b2, b3⟩ := of_decide_eq_true h3
    have hj := vl_mem h h1 b1 ((hlive j h1 b1).mp b2)
    have c2 := h4 k k1 kp
    have hp : (v :: suf).Pairwise vr_ := by
      have := h.1
      rw [hV, List.pairwise_append] at this
      exact this.2.1
    rw [List.pairwise_cons] at hp
    have hle : (F 73 j).toInt ≤ v.1.toInt := by
      rw [hV] at hj
      rcases List.mem_append.mp hj with hh | hh
      · exact absurd (hpre _ hh) b3
      · rcases List.mem_cons.mp hh with e | hh
        · rw [← e]; exact Int.le_refl _
        · have := (hp.1 _ hh).1
          have e : ((F 73 j, F 74 j, F 75 j, F 76 j) : vv_).1 = F 73 j := rfl
          rw [e] at this
          omega
    refine vr_uat h.1 hvV hj (Int32.toInt_inj.mp ?_)
    have e : v.1 = F 73 k := by rw [k4]
    show v.1.toInt = (F 73 j).toInt
    rw [e] at hle ⊢
    omega
theorem rc_nil {F : Nat → Nat → Int32} {i : Nat} {V : List vv_} {b : Int32} (h : vl_ F i V) (hpre : ∀ w ∈ V, b ≤ w.1) : rc_ F (nI i) b = -1 := by
  rw [rc_nw]
  rcases nw_p F (rp2_ F (nI i) b) with ⟨h1, _⟩ | ⟨j, h1, h2, h3, h4⟩
  · exact h1
  · obtain ⟨b1, b2, b3⟩ := of_decide_eq_true h3
    exact absurd (hpre _ (vl_mem h h1 b1 (fun e => b2 (by rw [e]; decide)))) b3
def roR_ (F : Nat → Nat → Int32) (r : Int32) : Option vv_ → Prop
  | none => r < 0
  | some v => ∃ j, j < rec_ F ∧ r = nI j ∧ v = tp_ F j
theorem ro_p {F : Nat → Nat → Int32} {i m : Nat} {V : List vv_} (h : vl_ F i V) (hm : m < 2 ^ 31) (hV : V.length < 5000) : ∀ f suf pre b z, V = pre ++ suf → (∀ v ∈ pre, b ≤ v.1) → (∀ v ∈ suf, ¬ b ≤ v.1) → suf.length + 2 ≤ f → (pre = [] ∨ ¬ z < 0) → (m < pre.length → ro_go F (nI i) (nI m) f pre.length b z = z) ∧ (pre.length ≤ m → roR_ F (ro_go F (nI i) (nI m) f pre.length b z) (vat_ (m - pre.length) suf)) := by
  intro f
  induction f with
  | zero => intro suf pre b z _ _ _ h5; omega
  | succ f ih =>
    intro suf pre b z hV2 h3 h4 h5 h6
    have hlen : pre.length ≤ V.length := by rw [hV2, List.length_append]; omega
    constructor
    · intro hlt
      unfold ro_go
      rw [if_pos (nI_lt hlt (by omega))]
    · intro hge
      have hstep : ro_go F (nI i) (nI m) (f + 1) pre.length b z = ro_go F (nI i) (nI m) f (pre.length + 1) (rw_ F (rc_ F (nI i) b)) (rc_ F (nI i) b) := by
        conv => lhs; unfold ro_go
        rw [if_neg (nI_nlt hge (by omega))]
        by_cases h0 : nI pre.length = 0
        · rw [if_pos h0]
        · rw [if_neg h0]
          rcases h6 with e | e
          · exact absurd (by rw [e]; exact nI_0) h0
          · rw [if_neg e]
      rw [hstep]
      cases suf with
      | nil =>
        have hrc : rc_ F (nI i) b = -1 := rc_nil h (by rw [hV2, List.append_nil]; exact h3)
        rw [hrc]
        have hv : vat_ (m - pre.length) [] = none := by cases (m - pre.length) <;> rfl
        rw [hv]
        show ro_go F (nI i) (nI m) f (pre.length + 1) _ (-1) < 0
        cases f with
        | zero => simp at h5
        | succ f =>
          unfold ro_go
          by_cases hh : nI m < nI (pre.length + 1)
          · rw [if_pos hh]; decide
          · rw [if_neg hh, if_neg (nI_ne0 (by omega) (by omega)), if_pos (by decide)]; decide
      | cons v suf =>
        obtain ⟨k, k1, k2, k3⟩ := rc_cons h hV2 h3 (h4 v List.mem_cons_self)
        have hrl := rec_lt F
        have hrw : rw_ F (rc_ F (nI i) b) = v.1 := by
          unfold rw_
          rw [k2, if_pos (nI_pos' (by omega)), nI_clamp (by omega), k3]
          rfl
        rw [hrw, k2]
        have hp := h.1
        rw [hV2, List.pairwise_append] at hp
        have := ih suf (pre ++ [v]) v.1 (nI k) (by rw [hV2, List.append_assoc]; rfl)
          (fun w hw => by
            rcases List.mem_append.mp hw with hw | hw
            · have := (hp.2.2 w hw v List.mem_cons_self).1
              rw [Int32.le_iff_toInt_le]; omega
            · rw [List.mem_singleton.mp hw, Int32.le_iff_toInt_le]; omega)
          (fun w hw => by
            have := ((List.pairwise_cons.mp hp.2.1).1 w hw).1
            rw [Int32.le_iff_toInt_le]; omega)
          (by simp at h5; omega) (Or.inr (nI_pos (by omega)))
        rw [List.length_append, show [v].length = 1 from rfl] at this
        by_cases e : m = pre.length
        · rw [this.1 (by omega), e, Nat.sub_self]
          exact ⟨k, k1, rfl, k3⟩
        · have h2 := this.2 (by omega)
          rw [show m - pre.length = (m - (pre.length + 1)) + 1 from by omega]
          exact h2
theorem ro_eq {F : Nat → Nat → Int32} {i m : Nat} {V : List vv_} (h : vl_ F i V) (hm : m < 2 ^ 31) (hV : V.length < 5000) (hr : V.length ≤ rec_ F) (hx : ∀ v ∈ V, v.1.toInt < 2147483647) : roR_ F (ro_go F (nI i) (nI m) (rec_ F + 2) 0 2147483647 (-1)) (vat_ m V) := by
  have := (ro_p h hm hV (rec_ F + 2) V [] 2147483647 (-1) rfl (fun v hv => by cases hv) (fun v hv => by
    have := hx v hv
    rw [Int32.le_iff_toInt_le]
    have e : (2147483647 : Int32).toInt = 2147483647 := by decide
    omega) (by omega) (Or.inl rfl)).2 (Nat.zero_le _)
  exact this
