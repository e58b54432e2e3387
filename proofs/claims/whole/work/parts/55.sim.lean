def sA_ (u : Int) (A F : Nat → Nat → Int32) : Prop := F 60 0 = A 0 0 ∧ F 60 2 = A 0 5 ∧ F 60 3 = A 1 0 ∧ F 60 4 = A 1 1 ∧ 1 ≤ (A 1 0).toInt ∧ (A 1 0).toInt ≤ u ∧ (A 1 0).toInt ≤ (A 1 1).toInt + 1 ∧ (A 1 1).toInt ≤ (A 1 0).toInt + 7
def sB_ (A F : Nat → Nat → Int32) (t : Nat) : Prop := ((A (10 + t) 0 = 1 ∧ F 77 t = 0) ∨ (A (10 + t) 0 = 0 ∧ F 77 t = 1)) ∧ F 78 t = A (10 + t) 1 ∧ F 79 t = A (10 + t) 2 ∧ F 80 t = A (10 + t) 3 ∧ ((F 81 t ≤ 0 ∧ A (10 + t) 4 = 0) ∨ (0 < F 81 t ∧ F 81 t = A (10 + t) 4)) ∧ F 82 t = A (10 + t) 5 ∧ 0 ≤ (A (10 + t) 2).toInt ∧ (A (10 + t) 2).toInt ≤ 8
def sl_ (T : Int32 → Int32) (nx : Int32) (V : List vv_) (F : Nat → Nat → Int32) (i : Nat) : Option (Nat → Int32) → Prop
  | none => F 65 i = 0
  | some f => f 0 = F 65 i ∧ f 1 = F 66 i ∧ f 2 = F 67 i ∧ f 3 = F 68 i ∧ ((F 69 i = 1 ∧ f 4 = 0) ∨ (F 69 i = 2 ∧ f 4 = 1 ∧ F 70 i = 0)) ∧ f 5 = F 70 i ∧ T (F 65 i) = F 65 i ∧ 1 ≤ (F 65 i).toInt ∧ (F 65 i).toInt < nx.toInt ∧ ∀ v ∈ V, ¬ v.2.1 = F 65 i
def sg2_ (T : Int32 → Int32) (nx : Int32) (v : vv_) : Prop := (¬ v.2.2.1 = 1 → v.2.2.2 = 0) ∧ T v.1 = v.2.1 ∧ 1 ≤ v.2.1.toInt ∧ v.2.1.toInt ≤ v.1.toInt ∧ (¬ v.2.2.1 = 3 → v.2.1.toInt < v.1.toInt) ∧ v.1.toInt < nx.toInt
def sV_ (T : Int32 → Int32) (m : Nat) (A : Nat → Nat → Int32) (V : List vv_) (F : Nat → Nat → Int32) (i : Nat) : Prop := A (20 + i) 3 = nI V.length ∧ V.length ≤ m ∧ V.length ≤ rec_ F ∧ vl_ F i V ∧ ∀ v ∈ V, sg2_ T (A 1 0) v
def wv_ (F : Nat → Nat → Int32) (c : Nat) : Nat → Bool := fun k => decide (F 87 (12 * c + k) = 2)
def pb_ (F : Nat → Nat → Int32) (c : Nat) : Nat → Bool := fun k => decide (¬ F 89 (12 * c + k) = 0)
def fb2_ (F : Nat → Nat → Int32) (c : Nat) : Nat → Bool := fun k => decide (k = fi_ F c ∨ ¬ F 90 (12 * c + k) = 0)
def sO1_ (A F : Nat → Nat → Int32) (c : Nat) : Prop := F 84 c = A (40 + c) 4 ∧ F 85 c = A (40 + c) 5 ∧ ((A (40 + c) 10 = 0 ∧ F 86 c = 0) ∨ (A (40 + c) 10 = 1 ∧ F 86 c = 1))
def sO2_ (A F : Nat → Nat → Int32) (c : Nat) : Prop := (∀ i, i < 12 → F 87 (12 * c + i) = 0 ∨ F 87 (12 * c + i) = 1 ∨ F 87 (12 * c + i) = 2) ∧ (∀ i, i < 12 → ¬ F 87 (12 * c + i) = 0 → F 88 (12 * c + i) = A (50 + c) i) ∧ (∀ i, i < 12 → F 87 (12 * c + i) = 2 → F 88 (12 * c + i) = 0) ∧ bs_ (A (40 + c) 6) (wb_ F c) ∧ bs_ (A (40 + c) 7) (wv_ F c) ∧ bs_ (A (40 + c) 8) (pb_ F c) ∧ (∀ i, i < 12 → ¬ F 89 (12 * c + i) = 0 → ¬ F 87 (12 * c + i) = 0)
def sO3_ (A F : Nat → Nat → Int32) (c : Nat) : Prop := (∀ i, i < 12 → ¬ F 90 (12 * c + i) = 0 → ¬ F 87 (12 * c + i) = 0) ∧ ((A (40 + c) 10 = 0 ∧ A (40 + c) 9 = 0 ∧ ∀ i, i < 12 → F 90 (12 * c + i) = 0) ∨ (A (40 + c) 10 = 1 ∧ bs_ (A (40 + c) 9) (fb2_ F c) ∧ ∃ i, i < 12 ∧ ¬ F 87 (12 * c + i) = 0 ∧ ¬ i = fi_ F c ∧ F 90 (12 * c + i) = 0))
def sO4_ (T : Int32 → Int32) (nx : Int32) (A : Nat → Nat → Int32) (c : Nat) : Prop := (A (40 + c) 3 = 0 → A (40 + c) 8 = 0 ∧ A (40 + c) 5 = 0 ∧ A (40 + c) 10 = 0) ∧ T (A (40 + c) 4) = A (40 + c) 4 ∧ 1 ≤ (A (40 + c) 4).toInt ∧ (A (40 + c) 4).toInt < nx.toInt ∧ (A (40 + c) 5 = 0 ∨ ((A (40 + c) 4).toInt < (A (40 + c) 5).toInt ∧ (A (40 + c) 5).toInt < nx.toInt ∧ T (A (40 + c) 5) = A (40 + c) 4))
def sX0_ (A F : Nat → Nat → Int32) (c : Nat) : Prop := A (40 + c) 2 = 0 ∧ F 83 c = 0 ∧ ∀ j, 2 ≤ j → j ≤ 10 → A (40 + c) j = 0
def sX1_ (T : Int32 → Int32) (nx : Int32) (A F : Nat → Nat → Int32) (c : Nat) : Prop := A (40 + c) 2 = 1 ∧ ((A (40 + c) 3 = 0 ∧ F 83 c = 1) ∨ (A (40 + c) 3 = 1 ∧ F 83 c = 2)) ∧ sO1_ A F c ∧ sO2_ A F c ∧ sO3_ A F c ∧ sO4_ T nx A c
def sX_ (T : Int32 → Int32) (nx : Int32) (A F : Nat → Nat → Int32) (c : Nat) : Prop := A (40 + c) 0 = nI c ∧ (sX0_ A F c ∨ sX1_ T nx A F c)
def sim_ (A B : Nat → Nat → Int32) (T : Int32 → Int32) (u : Int) (h : Nat → Nat) (q : Nat) (S : ss_) (F : Nat → Nat → Int32) : Prop :=
  ((∀ n j, 60 ≤ n → S.1 n j = A n j) ∧ ∀ n j, n < 60 ∨ 90 < n → F n j = B n j) ∧ sA_ u S.1 F ∧ (∀ t, t < 3 → sB_ S.1 F t) ∧ ok_ F ∧ (∀ i, i < 12 → sl_ T (S.1 1 0) (S.2.2 i) F i (S.2.1 i)) ∧ (∀ i, i < 12 → sV_ T (h i) S.1 (S.2.2 i) F i) ∧ (∀ c, c < 4 → sX_ T (S.1 1 0) S.1 F c) ∧ F 60 11 = nI (rec_ F) ∧ rec_ F ≤ q
theorem sl_row {T : Int32 → Int32} {nx : Int32} {V : List vv_} {F F' : Nat → Nat → Int32} {i : Nat} {o : Option (Nat → Int32)} (h : sl_ T nx V F i o) (e : ∀ n, 65 ≤ n → n ≤ 70 → F' n i = F n i) : sl_ T nx V F' i o := by
  cases o with
  | none => show F' 65 i = 0; rw [e 65 (by omega) (by omega)]; exact h
  | some f =>
    unfold sl_ at h ⊢
    rw [e 65 (by omega) (by omega), e 66 (by omega) (by omega), e 67 (by omega) (by omega), e 68 (by omega) (by omega), e 69 (by omega) (by omega), e 70 (by omega) (by omega)]
    exact h
theorem vl_row {F F' : Nat → Nat → Int32} {i : Nat} {V : List vv_} (h : vl_ F i V) (e : ∀ n, 72 ≤ n → n ≤ 76 → F' n = F n) (e2 : F' 60 11 = F 60 11) : vl_ F' i V := by
  have er : rec_ F' = rec_ F := by unfold rec_; rw [e2]
  refine ⟨h.1, fun v => ?_, h.2.2⟩
  rw [h.2.1 v]
  unfold sv_
  rw [er, e 72 (by omega) (by omega), e 73 (by omega) (by omega), e 74 (by omega) (by omega), e 75 (by omega) (by omega), e 76 (by omega) (by omega)]
theorem ok_row {F F' : Nat → Nat → Int32} (h : ok_ F) (e1 : F' 66 = F 66) (e2 : F' 67 = F 67) : ok_ F' := by
  unfold ok_ pn_ on_ at h ⊢
  rw [e1, e2]; exact h
theorem sX_row {T : Int32 → Int32} {nx : Int32} {A A' F F' : Nat → Nat → Int32} {c : Nat} (h : sX_ T nx A F c) (a1 : A' (40 + c) = A (40 + c)) (a2 : A' (50 + c) = A (50 + c)) (e : ∀ n, 83 ≤ n → n ≤ 86 → F' n c = F n c) (e' : ∀ n i, 87 ≤ n → n ≤ 90 → i < 12 → F' n (12 * c + i) = F n (12 * c + i)) : sX_ T nx A' F' c := by
  obtain ⟨h0, h⟩ := h
  have ew : ∀ k, k < 12 → wb_ F c k = wb_ F' c k := fun k hk => by unfold wb_; rw [e' 87 k (by omega) (by omega) hk]
  have ev : ∀ k, k < 12 → wv_ F c k = wv_ F' c k := fun k hk => by unfold wv_; rw [e' 87 k (by omega) (by omega) hk]
  have ep : ∀ k, k < 12 → pb_ F c k = pb_ F' c k := fun k hk => by unfold pb_; rw [e' 89 k (by omega) (by omega) hk]
  have efi : fi_ F' c = fi_ F c := by rw [fi_fb, fi_fb]; exact (fb_ext ew).symm
  have ef : ∀ k, k < 12 → fb2_ F c k = fb2_ F' c k := fun k hk => by unfold fb2_; rw [e' 90 k (by omega) (by omega) hk, efi]
  refine ⟨by rw [a1]; exact h0, ?_⟩
  rcases h with ⟨h1, h2, h3⟩ | ⟨h1, h2, h3, h4, h5, h6⟩
  · refine Or.inl ⟨by rw [a1]; exact h1, by rw [e 83 (by omega) (by omega)]; exact h2, fun j => ?_⟩
    rw [a1]; exact h3 j
  · refine Or.inr ⟨by rw [a1]; exact h1, ?_, ?_, ?_, ?_, ?_⟩
    · rw [a1, e 83 (by omega) (by omega)]; exact h2
    · unfold sO1_ at h3 ⊢
      rw [a1, e 84 (by omega) (by omega), e 85 (by omega) (by omega), e 86 (by omega) (by omega)]; exact h3
    · obtain ⟨b1, b2, b3, b4, b5, b6, b7⟩ := h4
      refine ⟨fun i hi => ?_, fun i hi => ?_, fun i hi => ?_, ?_, ?_, ?_, fun i hi => ?_⟩
      · rw [e' 87 i (by omega) (by omega) hi]; exact b1 i hi
      · rw [e' 87 i (by omega) (by omega) hi, e' 88 i (by omega) (by omega) hi, a2]; exact b2 i hi
      · rw [e' 87 i (by omega) (by omega) hi, e' 88 i (by omega) (by omega) hi]; exact b3 i hi
      · rw [a1]; exact bs_ext b4 ew
      · rw [a1]; exact bs_ext b5 ev
      · rw [a1]; exact bs_ext b6 ep
      · rw [e' 87 i (by omega) (by omega) hi, e' 89 i (by omega) (by omega) hi]; exact b7 i hi
    · obtain ⟨b0, b⟩ := h5
      refine ⟨fun i hi => by rw [e' 87 i (by omega) (by omega) hi, e' 90 i (by omega) (by omega) hi]; exact b0 i hi, ?_⟩
      rw [a1]
      rcases b with ⟨b1, b2, b3⟩ | ⟨b1, b2, i, i1, i2, i3, i4⟩
      · exact Or.inl ⟨b1, b2, fun i hi => by rw [e' 90 i (by omega) (by omega) hi]; exact b3 i hi⟩
      · exact Or.inr ⟨b1, bs_ext b2 ef, i, i1, by rw [e' 87 i (by omega) (by omega) i1]; exact i2, by rw [efi]; exact i3, by rw [e' 90 i (by omega) (by omega) i1]; exact i4⟩
    · unfold sO4_ at h6 ⊢; rw [a1]; exact h6
theorem sB_row {A A' F F' : Nat → Nat → Int32} {t : Nat} (h : sB_ A F t) (a : A' (10 + t) = A (10 + t)) (e : ∀ n, 77 ≤ n → n ≤ 82 → F' n t = F n t) : sB_ A' F' t := by
  unfold sB_ at h ⊢
  rw [a, e 77 (by omega) (by omega), e 78 (by omega) (by omega), e 79 (by omega) (by omega), e 80 (by omega) (by omega), e 81 (by omega) (by omega), e 82 (by omega) (by omega)]
  exact h
theorem sA_row {u : Int} {A A' F F' : Nat → Nat → Int32} (h : sA_ u A F) (a0 : A' 0 = A 0) (a1 : A' 1 = A 1) (e : ∀ j, j < 5 → j ≠ 1 → F' 60 j = F 60 j) : sA_ u A' F' := by
  unfold sA_ at h ⊢
  rw [a0, a1, e 0 (by omega) (by omega), e 2 (by omega) (by omega), e 3 (by omega) (by omega), e 4 (by omega) (by omega)]
  exact h
theorem sV_row {T : Int32 → Int32} {m : Nat} {A A' : Nat → Nat → Int32} {V : List vv_} {F F' : Nat → Nat → Int32} {i : Nat} (hh : sV_ T m A V F i) (a1 : A' 1 = A 1) (a2 : A' (20 + i) = A (20 + i)) (e : ∀ n, 72 ≤ n → n ≤ 76 → F' n = F n) (e2 : F' 60 11 = F 60 11) : sV_ T m A' V F' i := by
  obtain ⟨h1, h2, h3, h4, h5⟩ := hh
  have er : rec_ F' = rec_ F := by unfold rec_; rw [e2]
  refine ⟨by rw [a2]; exact h1, h2, by rw [er]; exact h3, vl_row h4 e e2, ?_⟩
  rw [a1]; exact h5
theorem i_add1 {x : Int32} (h : x.toInt < 2147483647) : (x + 1).toInt = x.toInt + 1 := by
  have h1 := Int32.le_toInt x
  have e : (1 : Int32).toInt = 1 := by decide
  rw [Int32.toInt_add, e, Int.bmod_eq_of_le (by omega) (by omega)]
theorem i_sub1 {x : Int32} (h : -2147483648 < x.toInt) : (x - 1).toInt = x.toInt - 1 := by
  have h1 := Int32.toInt_lt x
  have e : (1 : Int32).toInt = 1 := by decide
  rw [Int32.toInt_sub, e, Int.bmod_eq_of_le (by omega) (by omega)]
theorem i_0 : (0 : Int32).toInt = 0 := by decide
theorem i_1 : (1 : Int32).toInt = 1 := by decide
theorem i_eq {x z : Int32} (h : x.toInt = z.toInt) : x = z := Int32.toInt_inj.mp h
