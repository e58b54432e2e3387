def zf_ (F : Nat → Nat → Int32) (n : Nat) : Nat → Nat → Int32 := fun n' j => if n' = n then 0 else F n' j
def zo_ (R : Nat → Nat → Option Nat) (n : Nat) : Nat → Nat → Option Nat := fun n' j => if n' = n then none else R n' j
def ur_ (R : Nat → Nat → Option Nat) (n j : Nat) (x : Option Nat) : Nat → Nat → Option Nat := fun n' j' => if n' = n ∧ j' = j then x else R n' j'
theorem zf_at (F : Nat → Nat → Int32) (n n' j : Nat) : zf_ F n n' j = if n' = n then 0 else F n' j := rfl
theorem zo_at (R : Nat → Nat → Option Nat) (n n' j : Nat) : zo_ R n n' j = if n' = n then none else R n' j := rfl
theorem ur_at (R : Nat → Nat → Option Nat) (n j : Nat) (x : Option Nat) (n' j' : Nat) : ur_ R n j x n' j' = if n' = n ∧ j' = j then x else R n' j' := rfl
def cn_ (g : Nat → Nat) (M : mm_M) (D : Nat → Bool) (F : Nat → Nat → Int32) (R : Nat → Nat → Option Nat) : Prop :=
  (∀ n, D n = true → ∃ t, oo_k n = some t ∧ mm_k M (g n) = some t) ∧ (∀ n n', D n = true → D n' = true → g n = g n' → n = n') ∧
  (∀ n, D n = true → ∀ j, mm_i M (g n) j = F n j) ∧ (∀ n, D n = true → ∀ j, mm_r M (g n) j = (R n j).map g) ∧ (∀ n j m, D n = true → R n j = some m → D m = true)
theorem cn_si {g : Nat → Nat} {M : mm_M} {D : Nat → Bool} {F : Nat → Nat → Int32} {R : Nat → Nat → Option Nat} {a j : Nat} {x : Int32} (n : Nat) (h : cn_ g M D F R) (ha : g n = a) (hn : D n = true) : cn_ g (mm_si M a j x) D (uf_ F n j x) R := by
  subst ha
  obtain ⟨h1, h2, h3, h4, h5⟩ := h
  refine ⟨h1, h2, fun n' hn' j' => ?_, h4, h5⟩
  rw [mm_i_si, uf_at]
  by_cases e : n' = n
  · subst e
    by_cases e2 : j' = j
    · rw [if_pos ⟨rfl, e2⟩, if_pos ⟨rfl, e2⟩]
    · rw [if_neg (fun z => e2 z.2), if_neg (fun z => e2 z.2)]; exact h3 n' hn' j'
  · rw [if_neg (fun z => e (h2 n' n hn' hn z.1)), if_neg (fun z => e z.1)]; exact h3 n' hn' j'
theorem cn_sr {g : Nat → Nat} {M : mm_M} {D : Nat → Bool} {F : Nat → Nat → Int32} {R : Nat → Nat → Option Nat} {a b j : Nat} (n m : Nat) (h : cn_ g M D F R) (ha : g n = a) (hb : g m = b) (hn : D n = true) (hm : D m = true) : cn_ g (mm_sr M a j (some b)) D F (ur_ R n j (some m)) := by
  subst ha
  subst hb
  obtain ⟨h1, h2, h3, h4, h5⟩ := h
  refine ⟨h1, h2, h3, fun n' hn' j' => ?_, fun n' j' m' hn' h => ?_⟩
  · rw [mm_r_sr, ur_at]
    by_cases e : n' = n
    · subst e
      by_cases e2 : j' = j
      · rw [if_pos ⟨rfl, e2⟩, if_pos ⟨rfl, e2⟩]; rfl
      · rw [if_neg (fun z => e2 z.2), if_neg (fun z => e2 z.2)]; exact h4 n' hn' j'
    · rw [if_neg (fun z => e (h2 n' n hn' hn z.1)), if_neg (fun z => e z.1)]; exact h4 n' hn' j'
  · rw [ur_at] at h
    by_cases e : n' = n ∧ j' = j
    · rw [if_pos e] at h
      cases h
      exact hm
    · rw [if_neg e] at h
      exact h5 n' j' m' hn' h
theorem cn_sn {g : Nat → Nat} {M : mm_M} {D : Nat → Bool} {F : Nat → Nat → Int32} {R : Nat → Nat → Option Nat} {a j : Nat} (n : Nat) (h : cn_ g M D F R) (ha : g n = a) (hn : D n = true) : cn_ g (mm_sr M a j none) D F (ur_ R n j none) := by
  subst ha
  obtain ⟨h1, h2, h3, h4, h5⟩ := h
  refine ⟨h1, h2, h3, fun n' hn' j' => ?_, fun n' j' m' hn' h => ?_⟩
  · rw [mm_r_sr, ur_at]
    by_cases e : n' = n
    · subst e
      by_cases e2 : j' = j
      · rw [if_pos ⟨rfl, e2⟩, if_pos ⟨rfl, e2⟩]; rfl
      · rw [if_neg (fun z => e2 z.2), if_neg (fun z => e2 z.2)]; exact h4 n' hn' j'
    · rw [if_neg (fun z => e (h2 n' n hn' hn z.1)), if_neg (fun z => e z.1)]; exact h4 n' hn' j'
  · rw [ur_at] at h
    by_cases e : n' = n ∧ j' = j
    · rw [if_pos e] at h
      cases h
    · rw [if_neg e] at h
      exact h5 n' j' m' hn' h
theorem cn_nw {g : Nat → Nat} {M : mm_M} {D : Nat → Bool} {F : Nat → Nat → Int32} {R : Nat → Nat → Option Nat} {q : Nat} {t : mm_K} (n : Nat) (h : cn_ g M D F R) (hq : mm_k M q = none) (ht : oo_k n = some t) (hn : D n = false) : ∃ g', (∀ m, m ≠ n → g' m = g m) ∧ g' n = q ∧ cn_ g' (mm_nw M q t) (up_ D n true) (zf_ F n) (zo_ R n) := by
  obtain ⟨h1, h2, h3, h4, h5⟩ := h
  have hd : ∀ m, up_ D n true m = true → m = n ∨ (m ≠ n ∧ D m = true) := fun m hm => by
    rw [up_at] at hm
    by_cases e : m = n
    · exact Or.inl e
    · rw [if_neg e] at hm
      exact Or.inr ⟨e, hm⟩
  have hg : ∀ m, m ≠ n → up_ g n q m = g m := fun m hm => by rw [up_at, if_neg hm]
  have hgn : up_ g n q n = q := by rw [up_at, if_pos rfl]
  have hne : ∀ m, D m = true → g m ≠ q := fun m hm e => by
    obtain ⟨t', _, h⟩ := h1 m hm
    rw [e, hq] at h
    cases h
  refine ⟨up_ g n q, hg, hgn, fun m hm => ?_, fun m m' hm hm' e => ?_, fun m hm j => ?_, fun m hm j => ?_, fun m j m' hm h => ?_⟩
  · rcases hd m hm with rfl | ⟨e, hm⟩
    · exact ⟨t, ht, by rw [hgn, mm_k_nw, if_pos rfl]⟩
    · obtain ⟨t', a1, a2⟩ := h1 m hm
      exact ⟨t', a1, by rw [hg m e, mm_k_nw, if_neg (hne m hm)]; exact a2⟩
  · rcases hd m hm with rfl | ⟨e1, hmD⟩
    · rcases hd m' hm' with rfl | ⟨e2, hmD'⟩
      · rfl
      · rw [hgn, hg m' e2] at e
        exact absurd e.symm (hne m' hmD')
    · rcases hd m' hm' with rfl | ⟨e2, hmD'⟩
      · rw [hgn, hg m e1] at e
        exact absurd e (hne m hmD)
      · rw [hg m e1, hg m' e2] at e
        exact h2 m m' hmD hmD' e
  · rw [zf_at]
    rcases hd m hm with rfl | ⟨e, hm⟩
    · rw [hgn, mm_i_nw, if_pos rfl, if_pos rfl]
    · rw [hg m e, mm_i_nw, if_neg (hne m hm), if_neg e]
      exact h3 m hm j
  · rw [zo_at]
    rcases hd m hm with rfl | ⟨e, hm⟩
    · rw [hgn, mm_r_nw, if_pos rfl, if_pos rfl]
      rfl
    · rw [hg m e, mm_r_nw, if_neg (hne m hm), if_neg e, h4 m hm j]
      cases hR : R m j with
      | none => rfl
      | some m' =>
        have hm' := h5 m j m' hm hR
        have : m' ≠ n := fun z => by rw [z, hn] at hm'; cases hm'
        show some (g m') = some (up_ g n q m')
        rw [hg m' this]
  · rw [zo_at] at h
    rcases hd m hm with rfl | ⟨e, hm⟩
    · rw [if_pos rfl] at h
      cases h
    · rw [if_neg e] at h
      rw [up_at]
      by_cases e2 : m' = n
      · rw [if_pos e2]
      · rw [if_neg e2]
        exact h5 m j m' hm h
section CN
variable {l : Launch} {y : MethodName} {cc : ByteArray} {nL : Nat} {ret : Option FieldType} {G : mm_G} {R : Room} {A : Nat → Prop} {Q : mm_O → mm_M → Prop} {mc ms pc : Nat} {lv : List (Nat × Value)} {st : List Value} {M : mm_M} {g : Nat → Nat} {D : Nat → Bool} {F : Nat → Nat → Int32} {O : Nat → Nat → Option Nat}
theorem jj_cnw {q n : Nat} {t : mm_K} (h : cn_ g M D F O) (hq : mm_k M q = none) (ht : oo_k n = some t) (hn : D n = false) (kk : ∀ g' M', (∀ m, m ≠ n → g' m = g m) → g' n = q → cn_ g' M' (up_ D n true) (zf_ F n) (zo_ O n) → jj_ l y cc nL ret G R A Q mc ms pc lv st M') : jj_ l y cc nL ret G R A Q mc ms pc lv st (mm_nw M q t) := by
  obtain ⟨g', h1, h2, h3⟩ := cn_nw n h hq ht hn
  exact kk g' _ h1 h2 h3
end CN
