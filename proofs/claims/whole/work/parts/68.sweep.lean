theorem nz_ne : ¬ ((0 : Int32) = 1) := by decide
theorem mst_p (F : Nat → Nat → Int32) (x : Int32) : ∀ n k z, ¬ mst_ F x n k z = 0 ↔ ((∀ t, k ≤ t → t < k + n → ¬ F (10 + t) 0 = 0 ∧ F (10 + t) 1 < x) ∧ ¬ z = 0) := by
  intro n
  induction n with
  | zero => intro k z; exact ⟨fun h => ⟨fun t a b => by omega, h⟩, fun h => h.2⟩
  | succ n ih =>
    intro k z
    unfold mst_
    by_cases h0 : F (10 + k) 0 = 0
    · rw [if_pos h0]
      exact ⟨fun h => absurd rfl h, fun h => absurd h0 (h.1 k (by omega) (by omega)).1⟩
    · rw [if_neg h0]
      by_cases h1 : F (10 + k) 1 < x
      · rw [if_pos h1, ih]
        constructor
        · rintro ⟨a, b⟩
          refine ⟨fun t t1 t2 => ?_, b⟩
          by_cases e : t = k
          · subst e; exact ⟨h0, h1⟩
          · exact a t (by omega) (by omega)
        · rintro ⟨a, b⟩
          exact ⟨fun t t1 t2 => a t (by omega) (by omega), b⟩
      · rw [if_neg h1]
        exact ⟨fun h => absurd rfl h, fun h => absurd (h.1 k (by omega) (by omega)).2 h1⟩
theorem msc_p (L : Nat → Option (Nat → Int32)) (x : Int32) : ∀ n k z, ¬ msc_ L x n k z = 0 ↔ ((∀ i, k ≤ i → i < k + n → lt_ (L i) x = 0) ∧ ¬ z = 0) := by
  intro n
  induction n with
  | zero => intro k z; exact ⟨fun h => ⟨fun t a b => by omega, h⟩, fun h => h.2⟩
  | succ n ih =>
    intro k z
    unfold msc_
    by_cases h0 : lt_ (L k) x = 0
    · rw [if_pos h0, ih]
      constructor
      · rintro ⟨a, b⟩
        refine ⟨fun t t1 t2 => ?_, b⟩
        by_cases e : t = k
        · subst e; exact h0
        · exact a t (by omega) (by omega)
      · rintro ⟨a, b⟩
        exact ⟨fun t t1 t2 => a t (by omega) (by omega), b⟩
    · rw [if_neg h0]
      exact ⟨fun h => absurd rfl h, fun h => absurd (h.1 k (by omega) (by omega)) h0⟩
theorem msx_p (F : Nat → Nat → Int32) (x : Int32) : ∀ n k z, ¬ msx_ F x n k z = 0 ↔ ((∀ c, k ≤ c → c < k + n → (F (40 + c) 2 = 0 ∨ F (40 + c) 3 = 0 ∨ x ≤ F (40 + c) 4)) ∧ ¬ z = 0) := by
  intro n
  induction n with
  | zero => intro k z; exact ⟨fun h => ⟨fun t a b => by omega, h⟩, fun h => h.2⟩
  | succ n ih =>
    intro k z
    unfold msx_
    have key : (F (40 + k) 2 = 0 ∨ F (40 + k) 3 = 0 ∨ x ≤ F (40 + k) 4) → (¬ msx_ F x n (k + 1) z = 0 ↔ ((∀ c, k ≤ c → c < k + (n + 1) → (F (40 + c) 2 = 0 ∨ F (40 + c) 3 = 0 ∨ x ≤ F (40 + c) 4)) ∧ ¬ z = 0)) := fun hk => by
      rw [ih]
      constructor
      · rintro ⟨a, b⟩
        refine ⟨fun t t1 t2 => ?_, b⟩
        by_cases e : t = k
        · subst e; exact hk
        · exact a t (by omega) (by omega)
      · rintro ⟨a, b⟩
        exact ⟨fun t t1 t2 => a t (by omega) (by omega), b⟩
    by_cases h2 : F (40 + k) 2 = 0
    · rw [if_pos h2]; exact key (Or.inl h2)
    · rw [if_neg h2]
      by_cases h3 : F (40 + k) 3 = 0
      · rw [if_pos h3]; exact key (Or.inr (Or.inl h3))
      · rw [if_neg h3]
        by_cases h4 : x ≤ F (40 + k) 4
        · rw [if_pos h4]; exact key (Or.inr (Or.inr h4))
        · rw [if_neg h4]
          exact ⟨fun h => absurd rfl h, fun h => by rcases h.1 k (by omega) (by omega) with e | e | e; exact absurd e h2; exact absurd e h3; exact absurd e h4⟩
theorem m1_p (F : Nat → Nat → Int32) (w : Int32) : ∀ n k z, ¬ m1_go F w n k z = 0 ↔ ((∀ t, k ≤ t → t < k + n → F 77 t = 0 ∧ ¬ w ≤ F 78 t) ∧ ¬ z = 0) := by
  intro n
  induction n with
  | zero => intro k z; exact ⟨fun h => ⟨fun t a b => by omega, h⟩, fun h => h.2⟩
  | succ n ih =>
    intro k z
    unfold m1_go
    rw [ih]
    constructor
    · rintro ⟨a, b⟩
      by_cases hz : z = 0
      · rw [if_pos hz] at b; exact absurd rfl b
      · rw [if_neg hz] at b
        by_cases h1 : F 77 k = 0
        · rw [if_pos h1] at b
          by_cases h2 : w ≤ F 78 k
          · rw [if_pos h2] at b; exact absurd rfl b
          · refine ⟨fun t t1 t2 => ?_, hz⟩
            by_cases e : t = k
            · subst e; exact ⟨h1, h2⟩
            · exact a t (by omega) (by omega)
        · rw [if_neg h1] at b; exact absurd rfl b
    · rintro ⟨a, b⟩
      obtain ⟨h1, h2⟩ := a k (by omega) (by omega)
      rw [if_neg b, if_pos h1, if_neg h2]
      exact ⟨fun t t1 t2 => a t (by omega) (by omega), by decide⟩
theorem m2_p (F : Nat → Nat → Int32) (w : Int32) : ∀ n k z, ¬ m2_go F w n k z = 0 ↔ ((∀ i, k ≤ i → i < k + n → F 65 i = 0 ∨ ¬ F 65 i < w) ∧ ¬ z = 0) := by
  intro n
  induction n with
  | zero => intro k z; exact ⟨fun h => ⟨fun t a b => by omega, h⟩, fun h => h.2⟩
  | succ n ih =>
    intro k z
    unfold m2_go
    rw [ih]
    constructor
    · rintro ⟨a, b⟩
      by_cases hz : z = 0
      · rw [if_pos hz] at b; exact absurd rfl b
      · rw [if_neg hz] at b
        refine ⟨fun t t1 t2 => ?_, hz⟩
        by_cases e : t = k
        · subst e
          by_cases h1 : F 65 t = 0
          · exact Or.inl h1
          · rw [if_neg h1] at b
            by_cases h2 : F 65 t < w
            · rw [if_pos h2] at b; exact absurd rfl b
            · exact Or.inr h2
        · exact a t (by omega) (by omega)
    · rintro ⟨a, b⟩
      refine ⟨fun t t1 t2 => a t (by omega) (by omega), ?_⟩
      rw [if_neg b]
      by_cases h1 : F 65 k = 0
      · rw [if_pos h1]; decide
      · rw [if_neg h1]
        rcases a k (by omega) (by omega) with e | e
        · exact absurd e h1
        · rw [if_neg e]; decide
theorem m3_p (F : Nat → Nat → Int32) (w : Int32) : ∀ n k z, ¬ m3_go F w n k z = 0 ↔ ((∀ c, k ≤ c → c < k + n → F 83 c = 2 → ¬ F 84 c < w) ∧ ¬ z = 0) := by
  intro n
  induction n with
  | zero => intro k z; exact ⟨fun h => ⟨fun t a b => by omega, h⟩, fun h => h.2⟩
  | succ n ih =>
    intro k z
    unfold m3_go
    rw [ih]
    constructor
    · rintro ⟨a, b⟩
      by_cases hz : z = 0
      · rw [if_pos hz] at b; exact absurd rfl b
      · rw [if_neg hz] at b
        refine ⟨fun t t1 t2 => ?_, hz⟩
        by_cases e : t = k
        · subst e
          intro h1
          rw [if_pos h1] at b
          intro h2
          rw [if_pos h2] at b; exact absurd rfl b
        · exact a t (by omega) (by omega)
    · rintro ⟨a, b⟩
      refine ⟨fun t t1 t2 => a t (by omega) (by omega), ?_⟩
      rw [if_neg b]
      by_cases h1 : F 83 k = 2
      · rw [if_pos h1, if_neg (a k (by omega) (by omega) h1)]; decide
      · rw [if_neg h1]; decide
section SW
variable {A B : Nat → Nat → Int32} {T : Int32 → Int32} {u : Int} {h : Nat → Nat} {q : Nat} {S : ss_} {F : Nat → Nat → Int32}
theorem ms_eq {x : Int32} (hs : sim_ A B T u h q S F) : msC_ S x = 0 ↔ sw_m F x = 0 := by
  have key : ¬ msC_ S x = 0 ↔ ¬ sw_m F x = 0 := by
    unfold sw_m
    rw [m3_p, m2_p, m1_p]
    have hm0 : ¬ m0_ F x = 0 ↔ (¬ x < 1 ∧ ¬ F 60 3 < x) := by
      unfold m0_
      by_cases h1 : x < 1
      · rw [if_pos h1]; exact ⟨fun e => absurd rfl e, fun e => absurd h1 e.1⟩
      · rw [if_neg h1]
        by_cases h2 : F 60 3 < x
        · rw [if_pos h2]; exact ⟨fun e => absurd rfl e, fun e => absurd h2 e.2⟩
        · rw [if_neg h2]; exact ⟨fun _ => ⟨h1, h2⟩, fun _ => by decide⟩
    rw [hm0]
    have ht : (∀ t, 0 ≤ t → t < 0 + 3 → ¬ S.1 (10 + t) 0 = 0 ∧ S.1 (10 + t) 1 < x) ↔ (∀ t, 0 ≤ t → t < 0 + 3 → F 77 t = 0 ∧ ¬ x ≤ F 78 t) := by
      constructor
      · intro hh t a b
        obtain ⟨h1, h2⟩ := hh t a b
        have hup := up_iff (t := t) hs (by omega)
        exact ⟨Classical.byContradiction fun e => h1 (hup.mpr e), by rw [(hs.2.2.1 t (by omega)).2.1]; exact mm_nle h2⟩
      · intro hh t a b
        obtain ⟨h1, h2⟩ := hh t a b
        have hup := up_iff (t := t) hs (by omega)
        exact ⟨fun e => hup.mp e h1, by rw [(hs.2.2.1 t (by omega)).2.1] at h2; exact mm_lt h2⟩
    have hc : (∀ i, 0 ≤ i → i < 0 + 12 → lt_ (S.2.1 i) x = 0) ↔ (∀ i, 0 ≤ i → i < 0 + 12 → F 65 i = 0 ∨ ¬ F 65 i < x) := by
      have h1 : ∀ i, i < 12 → (lt_ (S.2.1 i) x = 0 ↔ (F 65 i = 0 ∨ ¬ F 65 i < x)) := fun i hi => by
        have hl := hs.2.2.2.2.1 i hi
        cases hL : S.2.1 i with
        | none =>
          rw [hL] at hl
          exact ⟨fun _ => Or.inl hl, fun _ => rfl⟩
        | some f =>
          rw [hL] at hl
          have l0 := hl.1
          have l7 := hl.2.2.2.2.2.2.2.1
          show (if x ≤ f 0 then (0 : Int32) else 1) = 0 ↔ _
          rw [l0]
          by_cases e : x ≤ F 65 i
          · rw [if_pos e]; exact ⟨fun _ => Or.inr (mm_nlt e), fun _ => rfl⟩
          · rw [if_neg e]
            refine ⟨fun z => absurd z (by decide), fun z => ?_⟩
            rcases z with z | z
            · rw [z, i_0] at l7; omega
            · exact absurd (mm_lt e) z
      exact ⟨fun hh i a b => (h1 i (by omega)).mp (hh i a b), fun hh i a b => (h1 i (by omega)).mpr (hh i a b)⟩
    have hx : (∀ c, 0 ≤ c → c < 0 + 4 → (S.1 (40 + c) 2 = 0 ∨ S.1 (40 + c) 3 = 0 ∨ x ≤ S.1 (40 + c) 4)) ↔ (∀ c, 0 ≤ c → c < 0 + 4 → F 83 c = 2 → ¬ F 84 c < x) := by
      have h1 : ∀ c, c < 4 → ((S.1 (40 + c) 2 = 0 ∨ S.1 (40 + c) 3 = 0 ∨ x ≤ S.1 (40 + c) 4) ↔ (F 83 c = 2 → ¬ F 84 c < x)) := fun c hc => by
        rcases (hs.2.2.2.2.2.2.1 c hc).2 with ⟨e1, e2, _⟩ | ⟨e1, e2, ⟨e3, _⟩, _⟩
        · rw [e1, e2]; exact ⟨fun _ z => absurd z (by decide), fun _ => Or.inl rfl⟩
        · rw [e1, e3]
          rcases e2 with ⟨a, b⟩ | ⟨a, b⟩
          · rw [a, b]; exact ⟨fun _ z => absurd z (by decide), fun _ => Or.inr (Or.inl rfl)⟩
          · rw [a, b]
            constructor
            · rintro (z | z | z) _
              · exact absurd z (by decide)
              · exact absurd z (by decide)
              · exact mm_nlt z
            · intro z; exact Or.inr (Or.inr (mm_le (z rfl)))
      exact ⟨fun hh c a b => (h1 c (by omega)).mp (hh c a b), fun hh c a b => (h1 c (by omega)).mpr (hh c a b)⟩
    unfold msC_
    have a3 := hs.2.1.2.2.1
    by_cases h1 : x < 1
    · rw [if_pos h1]
      exact ⟨fun e => absurd rfl e, fun e => absurd h1 e.2.2.2.1⟩
    · rw [if_neg h1]
      by_cases h2 : x ≤ S.1 1 0
      · rw [if_pos h2, mst_p, msc_p, msx_p]
        constructor
        · rintro ⟨b1, b2, b3, _⟩
          exact ⟨hx.mp b3, hc.mp b2, ht.mp b1, h1, by rw [a3]; exact mm_nlt h2⟩
        · rintro ⟨b1, b2, b3, _⟩
          exact ⟨ht.mpr b3, hc.mpr b2, hx.mpr b1, by decide⟩
      · rw [if_neg h2]
        exact ⟨fun e => absurd rfl e, fun e => absurd (by rw [a3]; exact mm_lt h2) e.2.2.2.2⟩
  constructor
  · intro e; exact Classical.byContradiction fun z => key.mpr z e
  · intro e; exact Classical.byContradiction fun z => key.mp z e
theorem sim_fg {i : Nat} {x : Int32} (hs : sim_ A B T u h q S F) (hi : i < 12) : sim_ A B T u h q (fgs_ S i x) (sc_ F i x) := by
  obtain ⟨⟨h1, h2⟩, h3, h4, h5, h6, h7, h8, h9, h10⟩ := hs
  have ea : ∀ n, n ≠ 20 + i → (fgs_ S i x).1 n = S.1 n := fun n hn => uf_row _ _ _ _ _ hn
  have e1 : (fgs_ S i x).1 1 = S.1 1 := ea 1 (by omega)
  have er : ∀ n, n ≠ 75 → sc_ F i x n = F n := fun n hn => sc_row hn
  refine ⟨⟨fun n j hn => ?_, fun n j hn => ?_⟩, sA_row h3 (ea 0 (by omega)) e1 (fun j _ _ => by rw [er 60 (by omega)]), fun t ht => ?_, ok_row h5 (er _ (by omega)) (er _ (by omega)), fun i' hi' => ?_, fun i' hi' => ?_, fun c hc => ?_, ?_, ?_⟩
  · rw [ea n (by omega)]; exact h1 n j hn
  · rw [er n (by omega)]; exact h2 n j hn
  · exact sB_row (h4 t ht) (ea _ (by omega)) (fun n _ _ => by rw [er n (by omega)])
  · rw [e1]
    show sl_ T _ (up_ S.2.2 i _ i') _ _ (S.2.1 i')
    have hl := sl_row (F' := sc_ F i x) (h6 i' hi') (fun n _ _ => by rw [er n (by omega)])
    by_cases e : i' = i
    · subst e
      rw [up_s]
      cases hL : S.2.1 i' with
      | none => rw [hL] at hl; exact hl
      | some f =>
        rw [hL] at hl
        obtain ⟨a0, a1, a2, a3, a4, a5, a6, a7, a8, a9⟩ := hl
        exact ⟨a0, a1, a2, a3, a4, a5, a6, a7, a8, fun v hv => a9 v ((fg_sub x _ 0 _).subset hv)⟩
    · rw [up_o _ _ _ _ e]; exact hl
  · show sV_ T (h i') _ (up_ S.2.2 i _ i') _ _
    by_cases e : i' = i
    · subst e
      rw [up_s]
      obtain ⟨b1, b2, b3, b4, b5⟩ := h7 i' hi'
      have hlen := (fg_sub x (S.2.2 i') 0 (S.1 (20 + i') 3)).length_le
      refine ⟨?_, by omega, by rw [sc_rec]; omega, sc_vl b4, fun v hv => ?_⟩
      · show uf_ S.1 (20 + i') 3 _ (20 + i') 3 = _
        rw [uf_s, b1]
        have := fg_cnt x (S.2.2 i') 0 0
        rw [Nat.zero_add, Nat.zero_add] at this
        exact this
      · rw [e1]; exact b5 v ((fg_sub x _ 0 _).subset hv)
    · rw [up_o _ _ _ _ e]
      obtain ⟨b1, b2, b3, b4, b5⟩ := h7 i' hi'
      exact ⟨by rw [ea _ (by omega)]; exact b1, b2, by rw [sc_rec]; exact b3, sc_vlo hi hi' e b4, by rw [e1]; exact b5⟩
  · rw [e1]
    exact sX_row (h8 c hc) (ea _ (by omega)) (ea _ (by omega)) (fun n a b => by rw [er n (by omega)]) (fun n i a b _ => by rw [er n (by omega)])
  · rw [sc_rec, er 60 (by omega)]; exact h9
  · rw [sc_rec]; exact h10
theorem ws_go_eq {x : Int32} : ∀ t, t < 3 → ∀ S, ws_go x t 12 0 S = fgs_ (fgs_ (fgs_ (fgs_ S (4 * t) x) (4 * t + 1) x) (4 * t + 2) x) (4 * t + 3) x := by
  intro t ht S
  match t, ht with
  | 0, _ => rfl
  | 1, _ => rfl
  | 2, _ => rfl
theorem so_go_eq {w : Int32} (t : Nat) (F : Nat → Nat → Int32) : so_go t w 4 0 F = sc_ (sc_ (sc_ (sc_ F (4 * t) w) (4 * t + 1) w) (4 * t + 2) w) (4 * t + 3) w := rfl
theorem sim_ws {t : Nat} {x : Int32} (hs : sim_ A B T u h q S F) (ht : t < 3) : sim_ A B T u h q (wsS_ S t x) (if en_g F t = 0 then en_F F t else st_F (en_F F t) t x) ∧ ((wsS_ S t x).1 (10 + t) 0 = 0 ↔ ¬ (if en_g F t = 0 then en_F F t else st_F (en_F F t) t x) 77 t = 0) := by
  have hl := sim_log hs ht
  have hg := en_g0 (hs.2.2.1 t ht)
  have main : sim_ A B T u h q (wsS_ S t x) (if en_g F t = 0 then en_F F t else st_F (en_F F t) t x) := by
    unfold wsS_
    rw [hg]
    by_cases hp : plr_ S.1 t = 0
    · rw [if_pos hp, if_pos hp]; exact hl
    · rw [if_neg hp, if_neg hp]
      unfold st_F
      rw [ws_go_eq t ht, so_go_eq]
      have h1 : sim_ A B T u h q (uf_ (plF_ S.1 t) (10 + t) 1 x, S.2) (uf_ (en_F F t) 78 t x) := by
        obtain ⟨b1, b2, b3, b4, b5, b6, b7, b8⟩ := hl.2.2.1 t ht
        refine sim_tab (S := (plF_ S.1 t, S.2)) hl ht (fun n hn => uf_row _ _ _ _ _ hn) (fun n hn => uf_row _ _ _ _ _ (by omega)) (fun n j a b e => uf_o _ _ _ _ _ _ (Or.inr e)) ⟨?_, ?_, ?_, ?_, ?_, ?_, ?_, ?_⟩
        · rw [uf_o _ _ _ _ _ _ (by omega), uf_o _ _ _ _ _ _ (by omega)]; exact b1
        · rw [uf_s, uf_s]
        · rw [uf_o _ _ _ _ _ _ (by omega), uf_o _ _ _ _ _ _ (by omega)]; exact b3
        · rw [uf_o _ _ _ _ _ _ (by omega), uf_o _ _ _ _ _ _ (by omega)]; exact b4
        · rw [uf_o _ _ _ _ _ _ (by omega), uf_o _ _ _ _ _ _ (by omega)]; exact b5
        · rw [uf_o _ _ _ _ _ _ (by omega), uf_o _ _ _ _ _ _ (by omega)]; exact b6
        · rw [uf_o _ _ _ _ _ _ (by omega)]; exact b7
        · rw [uf_o _ _ _ _ _ _ (by omega)]; exact b8
      exact sim_fg (sim_fg (sim_fg (sim_fg h1 (by omega)) (by omega)) (by omega)) (by omega)
  exact ⟨main, up_iff main ht⟩
theorem sw_go_0 {w : Int32} {K : Int32 → (Nat → Nat → Int32) → Prop} : ∀ n k a F, sw_go w n k a 0 F K ↔ K a F := by
  intro n k a F
  cases n with
  | zero => exact Iff.rfl
  | succ n => unfold sw_go; rw [if_pos rfl]
theorem sgo_sim {x : Int32} {K : Int32 → ss_ → Prop} : ∀ n k a S F, k + n = 3 → sim_ A B T u h q S F → F 60 1 = 0 →
    (∀ r S1 F1, (∀ K', K' r F1 → sw_go x n k a 1 F K') → F1 60 1 = 0 → sim_ A B T u h q S1 F1 → K r S1) → swC_go x n k a S K := by
  intro n
  induction n with
  | zero => intro k a S F _ hs hF hK; exact hK a S F (fun K' hK' => hK') hF hs
  | succ n ih =>
    intro k a S F hk hs hF hK
    have hg := en_g0 (hs.2.2.1 k (by omega))
    obtain ⟨w1, w2⟩ := sim_ws (x := x) hs (show k < 3 by omega)
    have e60 : en_F F k 60 = F 60 := en_row _ _ _ (by omega)
    unfold swC_go
    by_cases hp : plr_ S.1 k = 0
    · rw [if_pos hp]
      have hg0 : en_g F k = 0 := by rw [hg]; exact hp
      rw [if_pos hg0] at w1 w2
      have hF1 : en_F F k 60 1 = 0 := by rw [e60]; exact hF
      by_cases hd : (wsS_ S k x).1 (10 + k) 0 = 0
      · rw [if_pos hd]
        refine hK a _ _ (fun K' hK' => ?_) hF1 w1
        unfold sw_go
        rw [if_neg (by decide), if_pos hg0, if_neg (w2.mp hd), sw_go_0]
        exact hK'
      · rw [if_neg hd]
        refine ih (k + 1) a _ _ (by omega) w1 hF1 (fun r S1 F1 ev e d => hK r S1 F1 (fun K' hK' => ?_) e d)
        unfold sw_go
        rw [if_neg (by decide), if_pos hg0, if_pos (Classical.byContradiction fun e => hd (w2.mpr e))]
        exact ev K' hK'
    · rw [if_neg hp]
      have hg0 : ¬ en_g F k = 0 := by rw [hg]; exact hp
      rw [if_neg hg0] at w1 w2
      have hF1 : st_F (en_F F k) k x 60 1 = 0 := by
        unfold st_F
        rw [so_go_eq, sc_row (by omega), sc_row (by omega), sc_row (by omega), sc_row (by omega), uf_row _ _ _ _ _ (by omega), e60]
        exact hF
      by_cases hd : (wsS_ S k x).1 (10 + k) 0 = 0
      · rw [if_pos hd]
        refine hK (a + 1) _ _ (fun K' hK' => ?_) hF1 w1
        unfold sw_go
        rw [if_neg (by decide), if_neg hg0, if_neg (w2.mp hd), sw_go_0]
        exact hK'
      · rw [if_neg hd]
        refine ih (k + 1) (a + 1) _ _ (by omega) w1 hF1 (fun r S1 F1 ev e d => hK r S1 F1 (fun K' hK' => ?_) e d)
        unfold sw_go
        rw [if_neg (by decide), if_neg hg0, if_pos (Classical.byContradiction fun e => hd (w2.mpr e))]
        exact ev K' hK'
end SW
theorem op_sw {S : ss_} {x : Int32} : op_ cdn_ (fun K => swC_ S x (fun r S1 => K (0, r, S1))) (fun F K => sw_ F x (sw_m F x) K) S := by
  intro A B T u m q F hu hq hm hF hs
  have hm0 : sim_ A B T (u + 8) (fun _ => m + 1) (q + 2) S F := sim_mono hs (by omega) (fun _ _ => by omega) (by omega)
  have hms := ms_eq (x := x) hs
  unfold swC_
  by_cases h0 : msC_ S x = 0
  · rw [if_pos h0]
    refine ⟨-1, F, T, fun K' hK' => ?_, Or.inl ⟨rfl, hF, rfl⟩, hm0⟩
    show sw_ F x (sw_m F x) K'
    unfold sw_
    rw [if_pos (hms.mp h0)]; exact hK'
  · rw [if_neg h0]
    refine sgo_sim 3 0 0 S F rfl hm0 hF (fun r S1 F1 ev e d => ⟨r, F1, T, fun K' hK' => ?_, Or.inl ⟨rfl, e, rfl⟩, d⟩)
    show sw_ F x (sw_m F x) K'
    unfold sw_
    rw [if_neg (fun e => h0 (hms.mpr e))]
    exact ev K' hK'
