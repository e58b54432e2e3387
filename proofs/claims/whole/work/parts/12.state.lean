def oo_k (n : Nat) : Option mm_K :=
  if n = 0 then some (.inl 0) else if n = 1 then some (.inl 1) else if n = 2 then some (.inr (3, 3)) else if n = 3 then some (.inr (4, 12)) else if n = 4 then some (.inr (5, 4))
  else if 10 ≤ n ∧ n < 13 then some (.inl 2) else if 20 ≤ n ∧ n < 32 then some (.inl 3) else if 40 ≤ n ∧ n < 44 then some (.inl 6) else if 50 ≤ n ∧ n < 54 then some (.inr (0, 12))
  else if n = 60 then some (.inl 7) else if 65 ≤ n ∧ n < 71 then some (.inr (0, 12)) else if 72 ≤ n ∧ n < 77 then some (.inr (0, 1540)) else if n = 77 then some (.inr (1, 3)) else if 78 ≤ n ∧ n < 82 then some (.inr (0, 3)) else if n = 82 then some (.inr (1, 3))
  else if 83 ≤ n ∧ n < 86 then some (.inr (0, 4)) else if n = 86 then some (.inr (1, 4)) else if 87 ≤ n ∧ n < 89 then some (.inr (0, 48)) else if 89 ≤ n ∧ n < 91 then some (.inr (1, 48)) else if n = 100 then some (.inr (2, 1)) else none
def oo_m (k : Nat) : Bool := (5 ≤ k && k < 11) || (12 ≤ k && k < 31)
def rp_ly (g : Nat → Nat) (M : mm_M) : Prop :=
  (∀ n t, oo_k n = some t → mm_k M (g n) = some t) ∧ (∀ n n' t t', oo_k n = some t → oo_k n' = some t' → g n = g n' → n = n') ∧
  (mm_r M (g 0) 1 = some (g 1) ∧ mm_r M (g 0) 2 = some (g 2) ∧ mm_r M (g 0) 3 = some (g 3) ∧ mm_r M (g 0) 4 = some (g 4)) ∧
  (∀ t, t < 3 → mm_r M (g 2) t = some (g (10 + t))) ∧ (∀ i, i < 12 → mm_r M (g 3) i = some (g (20 + i)) ∧ mm_r M (g (20 + i)) 0 = some (g (10 + i / 4))) ∧
  (∀ c, c < 4 → mm_r M (g 4) c = some (g (40 + c)) ∧ mm_r M (g (40 + c)) 1 = some (g (50 + c))) ∧
  (∀ k, oo_m k = true → mm_r M (g 60) k = some (g (60 + k)))
def ch_ (M : mm_M) : Option Nat → List Nat → Prop
  | none, [] => True
  | some a, b :: bs => a = b ∧ mm_k M a = some (.inl 5) ∧ ch_ M (mm_r M a 4) bs
  | _, _ => False
abbrev vv_ : Type := Int32 × Int32 × Int32 × Int32
def vv_of (M : mm_M) (a : Nat) : vv_ := (mm_i M a 0, mm_i M a 1, mm_i M a 2, mm_i M a 3)
abbrev ss_ : Type := (Nat → Nat → Int32) × (Nat → Option (Nat → Int32)) × (Nat → List vv_)
def rp_lk (M : mm_M) (r : Option Nat) (f : Option (Nat → Int32)) : Prop := match f with
  | none => r = none
  | some f => ∃ a, r = some a ∧ mm_k M a = some (.inl 4) ∧ ∀ j, j < 6 → mm_i M a j = f j
def rp_dy (g : Nat → Nat) (M : mm_M) (L : Nat → Option (Nat → Int32)) (V : Nat → List vv_) : Prop :=
  (∀ i, i < 12 → rp_lk M (mm_r M (g (20 + i)) 1) (L i)) ∧
  ∃ as : Nat → List Nat, (∀ i, i < 12 → ch_ M (mm_r M (g (20 + i)) 2) (as i) ∧ (as i).map (vv_of M) = V i ∧ (as i).Nodup) ∧ ∀ i j, i < 12 → j < 12 → i ≠ j → ∀ a, a ∈ as i → a ∉ as j
def rp_ (g : Nat → Nat) (M : mm_M) (S : ss_) : Prop := rp_ly g M ∧ (∀ n t, oo_k n = some t → ∀ j, mm_i M (g n) j = S.1 n j) ∧ rp_dy g M S.2.1 S.2.2
def uf_ (F : Nat → Nat → Int32) (n j : Nat) (x : Int32) : Nat → Nat → Int32 := fun n' j' => if n' = n ∧ j' = j then x else F n' j'
theorem oo_ite {c : Prop} [Decidable c] {a b z : Option mm_K} (ha : a ≠ z) (hb : b ≠ z) : (if c then a else b) ≠ z := by
  by_cases h : c
  · rw [if_pos h]; exact ha
  · rw [if_neg h]; exact hb
theorem oo_k_no4 (n : Nat) : oo_k n ≠ some (.inl 4) ∧ oo_k n ≠ some (.inl 5) := by
  unfold oo_k
  constructor
  · repeat (refine oo_ite (by simp) ?_)
    simp
  · repeat (refine oo_ite (by simp) ?_)
    simp
theorem ch_si {M : mm_M} {b k : Nat} {x : Int32} : ∀ {as : List Nat} {r : Option Nat}, ch_ M r as → ch_ (mm_si M b k x) r as := by
  intro as
  induction as with
  | nil =>
    intro r h
    cases r with
    | none => trivial
    | some a => exact h
  | cons c cs ih =>
    intro r h
    cases r with
    | none => exact h
    | some a => exact ⟨h.1, h.2.1, ih h.2.2⟩
theorem ch_kind {M : mm_M} : ∀ {as : List Nat} {r : Option Nat}, ch_ M r as → ∀ a, a ∈ as → mm_k M a = some (.inl 5) := by
  intro as
  induction as with
  | nil =>
    intro r h a ha
    cases ha
  | cons c cs ih =>
    intro r h a ha
    cases r with
    | none => exact h.elim
    | some b =>
      obtain ⟨rfl, h2, h3⟩ := h
      rcases List.mem_cons.mp ha with rfl | ha
      · exact h2
      · exact ih h3 a ha
theorem rp_si {g : Nat → Nat} {M : mm_M} {S : ss_} {n j : Nat} {t : mm_K} {x : Int32} (h : rp_ g M S) (hn : oo_k n = some t) : rp_ g (mm_si M (g n) j x) (uf_ S.1 n j x, S.2) := by
  obtain ⟨hl, hi, hd⟩ := h
  have hk := hl.1 n t hn
  have h4 : ∀ a, mm_k M a = some (.inl 4) → a ≠ g n := fun a ha e => by
    rw [e, hk] at ha
    exact (oo_k_no4 n).1 (hn.trans ha)
  have h5 : ∀ a, mm_k M a = some (.inl 5) → a ≠ g n := fun a ha e => by
    rw [e, hk] at ha
    exact (oo_k_no4 n).2 (hn.trans ha)
  refine ⟨hl, fun n' t' hn' j' => ?_, fun i hi12 => ?_, ?_⟩
  · rw [mm_i_si]
    show _ = if n' = n ∧ j' = j then x else S.1 n' j'
    by_cases e : n' = n
    · subst e
      by_cases e2 : j' = j
      · rw [if_pos ⟨rfl, e2⟩, if_pos ⟨rfl, e2⟩]
      · rw [if_neg (fun z => e2 z.2), if_neg (fun z => e2 z.2)]
        exact hi n' t' hn' j'
    · rw [if_neg (fun z => e (hl.2.1 n' n t' t hn' hn z.1)), if_neg (fun z => e z.1)]
      exact hi n' t' hn' j'
  · have h0 := hd.1 i hi12
    show rp_lk (mm_si M (g n) j x) (mm_r M (g (20 + i)) 1) (S.2.1 i)
    cases hL : S.2.1 i with
    | none =>
      rw [hL] at h0
      exact h0
    | some f =>
      rw [hL] at h0
      obtain ⟨a, r1, r2, r3⟩ := h0
      refine ⟨a, r1, r2, fun j' hj' => ?_⟩
      rw [mm_i_si, if_neg (fun z => h4 a r2 z.1)]
      exact r3 j' hj'
  · obtain ⟨as, q1, q2⟩ := hd.2
    refine ⟨as, fun i hi12 => ?_, q2⟩
    obtain ⟨p1, p2, p3⟩ := q1 i hi12
    refine ⟨ch_si p1, ?_, p3⟩
    rw [← p2]
    refine List.map_congr_left (fun a ha => ?_)
    have hne := h5 a (ch_kind p1 a ha)
    have e : ∀ j', mm_i (mm_si M (g n) j x) a j' = mm_i M a j' := fun j' => by rw [mm_i_si, if_neg (fun z => hne z.1)]
    unfold vv_of
    rw [e, e, e, e]
