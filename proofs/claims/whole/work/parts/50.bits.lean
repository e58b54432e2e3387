theorem uf_row (F : Nat → Nat → Int32) (n j : Nat) (x : Int32) (n' : Nat) (h : n' ≠ n) : uf_ F n j x n' = F n' := by
  funext j'
  rw [uf_at, if_neg (fun e => h e.1)]
theorem uf_o (F : Nat → Nat → Int32) (n j : Nat) (x : Int32) (n' j' : Nat) (h : n' ≠ n ∨ j' ≠ j) : uf_ F n j x n' j' = F n' j' := by
  rw [uf_at, if_neg (fun e => h.elim (fun h => h e.1) (fun h => h e.2))]
theorem uf_s (F : Nat → Nat → Int32) (n j : Nat) (x : Int32) : uf_ F n j x n j = x := by
  rw [uf_at, if_pos ⟨rfl, rfl⟩]
theorem up_o {α : Type} (L : Nat → α) (i : Nat) (x : α) (j : Nat) (h : j ≠ i) : up_ L i x j = L j := by rw [up_at, if_neg h]
theorem up_s {α : Type} (L : Nat → α) (i : Nat) (x : α) : up_ L i x i = x := by rw [up_at, if_pos rfl]
def bs_ (x : Int32) (b : Nat → Bool) : Prop := ∀ k, k < 32 → x.toBitVec.getLsbD k = (decide (k < 12) && b k)
theorem bs_eq {x z : Int32} {b : Nat → Bool} (h : bs_ x b) (h' : bs_ z b) : x = z := by
  apply Int32.toBitVec_inj.mp
  apply BitVec.eq_of_getLsbD_eq
  intro k hk
  rw [h k hk, h' k hk]
theorem bs_ext {x : Int32} {b b' : Nat → Bool} (h : bs_ x b) (e : ∀ k, k < 12 → b k = b' k) : bs_ x b' := by
  intro k hk
  rw [h k hk]
  by_cases h12 : k < 12
  · rw [e k h12]
  · simp [h12]
theorem bs_iff {x z : Int32} {b b' : Nat → Bool} (h : bs_ x b) (h' : bs_ z b') : x = z ↔ ∀ k, k < 12 → b k = b' k := by
  constructor
  · intro e k hk
    have h1 := h k (by omega)
    have h2 := h' k (by omega)
    rw [e, h2] at h1
    simpa [hk] using h1.symm
  · intro e
    exact bs_eq (bs_ext h e) h'
theorem bs_0 : bs_ 0 (fun _ => false) := by
  intro k hk
  show (BitVec.ofNat 32 0).getLsbD k = _
  simp
theorem bs_b1 {i : Nat} (hi : i < 12) : bs_ (b1_ i) (fun k => decide (k = i)) := by
  have : ∀ i, i < 12 → ∀ k, k < 32 → (b1_ i).toBitVec.getLsbD k = (decide (k < 12) && decide (k = i)) := by decide +kernel
  exact this i hi
theorem bs_or {x z : Int32} {b b' : Nat → Bool} (h : bs_ x b) (h' : bs_ z b') : bs_ (x ||| z) (fun k => b k || b' k) := by
  intro k hk
  rw [Int32.toBitVec_or, BitVec.getLsbD_or, h k hk, h' k hk]
  cases decide (k < 12) <;> simp
theorem bs_not {x : Int32} {b : Nat → Bool} (h : bs_ x b) (k : Nat) (hk : k < 32) : (x ^^^ (-1)).toBitVec.getLsbD k = !(decide (k < 12) && b k) := by
  rw [Int32.toBitVec_xor, BitVec.getLsbD_xor, h k hk]
  have : ∀ k, k < 32 → (-1 : Int32).toBitVec.getLsbD k = true := by decide +kernel
  rw [this k hk]
  simp
theorem bs_andn {x z : Int32} {b b' : Nat → Bool} (h : bs_ x b) (h' : bs_ z b') : bs_ (x &&& (z ^^^ (-1))) (fun k => b k && !b' k) := by
  intro k hk
  rw [Int32.toBitVec_and, BitVec.getLsbD_and, h k hk, bs_not h' k hk]
  by_cases h12 : k < 12 <;> simp [h12]
theorem bs_add {x : Int32} {b : Nat → Bool} {i : Nat} (hi : i < 12) (h : bs_ x b) (hb : b i = false) : bs_ (x + b1_ i) (fun k => b k || decide (k = i)) := by
  have : x + b1_ i = x ||| b1_ i := by
    apply Int32.toBitVec_inj.mp
    rw [Int32.toBitVec_add, Int32.toBitVec_or]
    apply BitVec.add_eq_or_of_and_eq_zero
    apply BitVec.eq_of_getLsbD_eq
    intro k hk
    rw [BitVec.getLsbD_and, h k hk, bs_b1 hi k hk]
    by_cases e : k = i
    · subst e; simp [hb]
    · simp [e]
  rw [this]
  exact bs_or h (bs_b1 hi)
theorem bs_z {x : Int32} {b : Nat → Bool} (h : bs_ x b) : x = 0 ↔ ∀ k, k < 12 → b k = false := by
  rw [bs_iff h bs_0]
theorem bs_bt {x : Int32} {b : Nat → Bool} {i : Nat} (h : bs_ x b) (hi : i < 12) : bt_ x i = if b i then 1 else 0 := by
  have h31 : ∀ i, i < 12 → ((nI i &&& 31).toBitVec.smod 32).toNat = i := by decide +kernel
  have h1 : ∀ k, k < 32 → (1 : Int32).toBitVec.getLsbD k = decide (k = 0) := by decide +kernel
  unfold bt_
  apply Int32.toBitVec_inj.mp
  apply BitVec.eq_of_getLsbD_eq
  intro k hk
  rw [Int32.toBitVec_and, BitVec.getLsbD_and, h1 k hk, Int32.toBitVec_shiftRight]
  rw [BitVec.sshiftRight_eq', BitVec.getLsbD_sshiftRight, h31 i hi]
  by_cases e : k = 0
  · subst e
    have hh := h i (by omega)
    rw [if_pos (by omega)]
    simp only [Nat.add_zero]
    rw [hh]
    cases hb : b i
    · simp
    · simp [hi]
  · cases hb : b i
    · simp [e]
    · simp [e, h1 k hk]
