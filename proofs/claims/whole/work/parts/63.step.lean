section SM
variable {A B : Nat → Nat → Int32} {T : Int32 → Int32} {u : Int} {h : Nat → Nat} {q : Nat} {S : ss_} {F : Nat → Nat → Int32}
theorem sim_st {c : Nat} (hs : sim_ A B T u h q S F) (hc : c < 4) (h2 : ¬ S.1 (40 + c) 2 = 0) : sim_ A B T u h q (uf_ S.1 (40 + c) 3 1, S.2) (uf_ F 83 c 2) := by
  have hX := sim_x1 hs hc h2
  have h0 := (hs.2.2.2.2.2.2.1 c hc).1
  obtain ⟨x1, x2, ⟨y1, y2, y3⟩, ⟨z1, z2, z3, z4, z5, z6, z7⟩, ⟨v0, v1⟩, ⟨w0, w1, w2, w3, w4⟩⟩ := hX
  have ef : fi_ (uf_ F 83 c 2) c = fi_ F c := fi_row (uf_row _ _ _ _ _ (by omega))
  refine sim_x hs hc (fun n a b => uf_row _ _ _ _ _ a) (fun n hn => uf_row _ _ _ _ _ (by omega)) (fun n j a b e => uf_o _ _ _ _ _ _ (by omega)) (fun n j a b e => by rw [uf_row _ _ _ _ _ (by omega)]) ⟨?_, Or.inr ⟨?_, ?_, ⟨?_, ?_, ?_⟩, ⟨fun j hj => ?_, fun j hj => ?_, fun j hj => ?_, ?_, ?_, ?_, fun j hj => ?_⟩, ⟨fun j hj => ?_, ?_⟩, ⟨?_, ?_, ?_, ?_, ?_⟩⟩⟩
  · rw [uf_o _ _ _ _ _ _ (by omega)]; exact h0
  · rw [uf_o _ _ _ _ _ _ (by omega)]; exact x1
  · rw [uf_s, uf_s]; exact Or.inr ⟨rfl, rfl⟩
  · rw [uf_o _ _ _ _ _ _ (by omega), uf_o _ _ _ _ _ _ (by omega)]; exact y1
  · rw [uf_o _ _ _ _ _ _ (by omega), uf_o _ _ _ _ _ _ (by omega)]; exact y2
  · rw [uf_o _ _ _ _ _ _ (by omega), uf_o _ _ _ _ _ _ (by omega)]; exact y3
  · rw [uf_o _ _ _ _ _ _ (by omega)]; exact z1 j hj
  · rw [uf_o _ _ _ _ _ _ (by omega), uf_o _ _ _ _ _ _ (by omega), uf_o _ _ _ _ _ _ (by omega)]; exact z2 j hj
  · rw [uf_o _ _ _ _ _ _ (by omega), uf_o _ _ _ _ _ _ (by omega)]; exact z3 j hj
  · rw [uf_o _ _ _ _ _ _ (by omega)]; unfold wb_; rw [uf_row _ _ _ _ _ (by omega)]; exact z4
  · rw [uf_o _ _ _ _ _ _ (by omega)]; unfold wv_; rw [uf_row _ _ _ _ _ (by omega)]; exact z5
  · rw [uf_o _ _ _ _ _ _ (by omega)]; unfold pb_; rw [uf_row _ _ _ _ _ (by omega)]; exact z6
  · rw [uf_o _ _ _ _ _ _ (by omega), uf_o _ _ _ _ _ _ (by omega)]; exact z7 j hj
  · rw [uf_o _ _ _ _ _ _ (by omega), uf_o _ _ _ _ _ _ (by omega)]; exact v0 j hj
  · rw [uf_o _ _ _ _ _ _ (by omega), uf_o _ _ _ _ _ _ (by omega)]
    unfold fb2_
    rw [ef, uf_row _ _ _ _ 90 (by omega), uf_row _ _ _ _ 87 (by omega)]
    exact v1
  · rw [uf_s]; intro e; exact absurd e (by decide)
  · rw [uf_o _ _ _ _ _ _ (by omega)]; exact w1
  · rw [uf_o _ _ _ _ _ _ (by omega)]; exact w2
  · rw [uf_o _ _ _ _ _ _ (by omega)]; exact w3
  · rw [uf_o _ _ _ _ _ _ (by omega), uf_o _ _ _ _ _ _ (by omega)]; exact w4
def tu_ (T : Int32 → Int32) (x y : Int32) : Int32 → Int32 := fun z => if z = x then y else T z
theorem tu_s {x y : Int32} : tu_ T x y x = y := by unfold tu_; rw [if_pos rfl]
theorem tu_o {x y z : Int32} (hz : z.toInt < x.toInt) : tu_ T x y z = T z := by
  unfold tu_; rw [if_neg]; intro e; rw [e] at hz; omega
theorem sl_up {nx nx' y : Int32} {V : List vv_} {i : Nat} {o : Option (Nat → Int32)} (hl : sl_ T nx V F i o) (hn : nx.toInt ≤ nx'.toInt) : sl_ (tu_ T nx y) nx' V F i o := by
  cases o with
  | none => exact hl
  | some f =>
    obtain ⟨a0, a1, a2, a3, a4, a5, a6, a7, a8, a9⟩ := hl
    exact ⟨a0, a1, a2, a3, a4, a5, by rw [tu_o a8]; exact a6, a7, by omega, a9⟩
theorem sg2_up {nx nx' y : Int32} {v : vv_} (hg : sg2_ T nx v) (hn : nx.toInt ≤ nx'.toInt) : sg2_ (tu_ T nx y) nx' v := by
  obtain ⟨a1, a2, a3, a4, a5, a6⟩ := hg
  exact ⟨a1, by rw [tu_o a6]; exact a2, a3, a4, a5, by omega⟩
theorem sX_up {nx nx' y : Int32} {A' : Nat → Nat → Int32} {c : Nat} (hX : sX_ T nx A' F c) (hn : nx.toInt ≤ nx'.toInt) : sX_ (tu_ T nx y) nx' A' F c := by
  obtain ⟨h0, hX⟩ := hX
  refine ⟨h0, ?_⟩
  rcases hX with hX | ⟨a1, a2, a3, a4, a5, b1, b2, b3, b4, b5⟩
  · exact Or.inl hX
  · refine Or.inr ⟨a1, a2, a3, a4, a5, b1, by rw [tu_o b4]; exact b2, b3, by omega, ?_⟩
    rcases b5 with e | ⟨e1, e2, e3⟩
    · exact Or.inl e
    · exact Or.inr ⟨e1, by omega, by rw [tu_o e2]; exact e3⟩
theorem ho_at : ho_F F 60 3 = F 60 3 + 1 ∧ ho_F F 60 4 = (if F 60 3 ≤ F 60 4 then F 60 4 else F 60 3 + 7) := by
  unfold ho_F
  rw [uf_s, uf_o _ _ _ _ _ _ (by omega), uf_s]
  exact ⟨rfl, rfl⟩
theorem ho_o {n j : Nat} (hn : n ≠ 60 ∨ (j ≠ 3 ∧ j ≠ 4)) : ho_F F n j = F n j := by
  unfold ho_F
  rw [uf_o _ _ _ _ _ _ (by omega), uf_o _ _ _ _ _ _ (by omega)]
theorem hoC_at : hoC_ F 1 0 = F 1 0 + 1 ∧ hoC_ F 1 1 = (if F 1 1 < F 1 0 then F 1 0 + 7 else F 1 1) := by
  unfold hoC_
  rw [uf_s, uf_o _ _ _ _ _ _ (by omega), uf_s]
  exact ⟨rfl, rfl⟩
theorem hoC_o {n j : Nat} (hn : n ≠ 1 ∨ (j ≠ 0 ∧ j ≠ 1)) : hoC_ F n j = F n j := by
  unfold hoC_
  rw [uf_o _ _ _ _ _ _ (by omega), uf_o _ _ _ _ _ _ (by omega)]
theorem ho_row {n : Nat} (hn : n ≠ 60) : ho_F F n = F n := funext fun j => ho_o (Or.inl hn)
theorem hoC_row {n : Nat} (hn : n ≠ 1) : hoC_ F n = F n := funext fun j => hoC_o (Or.inl hn)
theorem i_add7 {x : Int32} (h : x.toInt < 2147483600) : (x + 7).toInt = x.toInt + 7 := by
  have h1 := Int32.le_toInt x
  have e : (7 : Int32).toInt = 7 := by decide
  rw [Int32.toInt_add, e, Int.bmod_eq_of_le (by omega) (by omega)]
theorem sim_ho {c : Nat} {y : Int32} {A' F' : Nat → Nat → Int32} (hs : sim_ A B T u h q S F) (hu : u < 1000000) (hc : c < 4) (hA : ∀ n, n ≠ 1 → n ≠ 40 + c → n ≠ 50 + c → A' n = S.1 n) (hA1 : A' 1 = hoC_ S.1 1) (hF : ∀ n, n < 83 ∨ 90 < n → F' n = ho_F F n) (hF2 : ∀ n j, 83 ≤ n → n ≤ 86 → j ≠ c → F' n j = F n j) (hF3 : ∀ n j, 87 ≤ n → n ≤ 90 → j / 12 ≠ c → F' n j = F n j) (hX : sX_ (tu_ T (S.1 1 0) y) (A' 1 0) A' F' c) : sim_ A B (tu_ T (S.1 1 0) y) (u + 1) h q (A', S.2) F' := by
  obtain ⟨⟨h1, h2⟩, ⟨a1, a2, a3, a4, a5, a6, a7, a8⟩, h4, h5, h6, h7, h8, h9, h10⟩ := hs
  have e10 : A' 1 0 = S.1 1 0 + 1 := by rw [hA1]; exact hoC_at.1
  have e11 : A' 1 1 = (if S.1 1 1 < S.1 1 0 then S.1 1 0 + 7 else S.1 1 1) := by rw [hA1]; exact hoC_at.2
  have en : (S.1 1 0 + 1).toInt = (S.1 1 0).toInt + 1 := i_add1 (by omega)
  have e7 : (S.1 1 0 + 7).toInt = (S.1 1 0).toInt + 7 := i_add7 (by omega)
  have hup : (S.1 1 0).toInt ≤ (A' 1 0).toInt := by rw [e10, en]; omega
  have hF60 : ∀ j, j ≠ 3 → j ≠ 4 → F' 60 j = F 60 j := fun j x1 x2 => by rw [hF 60 (by omega)]; exact ho_o (Or.inr ⟨x1, x2⟩)
  have hFr : ∀ n, n < 83 ∨ 90 < n → n ≠ 60 → F' n = F n := fun n x1 x2 => by rw [hF n x1, ho_row x2]
  have hrec : rec_ F' = rec_ F := by unfold rec_; rw [hF60 11 (by omega) (by omega)]
  refine ⟨⟨fun n j hn => ?_, fun n j hn => ?_⟩, ⟨?_, ?_, ?_, ?_, ?_, ?_, ?_, ?_⟩, fun t ht => ?_, ok_row h5 (hFr _ (by omega) (by omega)) (hFr _ (by omega) (by omega)), fun i hi => ?_, fun i hi => ?_, fun c' hc' => ?_, ?_, ?_⟩
  · show A' n j = _
    rw [hA n (by omega) (by omega) (by omega)]; exact h1 n j hn
  · rw [hFr n (by omega) (by omega)]; exact h2 n j hn
  · show F' 60 0 = A' 0 0
    rw [hF60 0 (by omega) (by omega), hA 0 (by omega) (by omega) (by omega)]; exact a1
  · show F' 60 2 = A' 0 5
    rw [hF60 2 (by omega) (by omega), hA 0 (by omega) (by omega) (by omega)]; exact a2
  · show F' 60 3 = A' 1 0
    rw [hF 60 (by omega), ho_at.1, e10, a3]
  · show F' 60 4 = A' 1 1
    rw [hF 60 (by omega), ho_at.2, e11, a3, a4]
    by_cases e : S.1 1 0 ≤ S.1 1 1
    · rw [if_pos e, if_neg (mm_nlt e)]
    · rw [if_neg e, if_pos (mm_lt e)]
  · show 1 ≤ (A' 1 0).toInt
    rw [e10, en]; omega
  · show (A' 1 0).toInt ≤ _
    rw [e10, en]; omega
  · show (A' 1 0).toInt ≤ (A' 1 1).toInt + 1
    rw [e10, e11, en]
    split
    · rw [e7]; omega
    · rename_i e
      rw [Int32.lt_iff_toInt_lt] at e; omega
  · show (A' 1 1).toInt ≤ (A' 1 0).toInt + 7
    rw [e10, e11, en]
    split
    · rw [e7]; omega
    · omega
  · exact sB_row (h4 t ht) (hA _ (by omega) (by omega) (by omega)) (fun n _ _ => by rw [hFr n (by omega) (by omega)])
  · show sl_ _ (A' 1 0) _ _ _ _
    exact sl_row (sl_up (h6 i hi) hup) (fun n _ _ => by rw [hFr n (by omega) (by omega)])
  · obtain ⟨b1, b2, b3, b4, b5⟩ := h7 i hi
    refine ⟨?_, b2, by rw [hrec]; exact b3, vl_row b4 (fun n _ _ => hFr n (by omega) (by omega)) (hF60 11 (by omega) (by omega)), fun v hv => sg2_up (b5 v hv) hup⟩
    show A' (20 + i) 3 = _
    rw [hA _ (by omega) (by omega) (by omega)]; exact b1
  · show sX_ _ (A' 1 0) A' F' c'
    by_cases e : c' = c
    · subst e; exact hX
    · exact sX_row (sX_up (h8 c' hc') hup) (hA _ (by omega) (by omega) (by omega)) (hA _ (by omega) (by omega) (by omega)) (fun n a b => hF2 n c' a b e) (fun n i a b hi => hF3 n _ a b (by omega))
  · rw [hrec, hF60 11 (by omega) (by omega)]; exact h9
  · rw [hrec]; exact h10
theorem nx_pw {c : Nat} (hX : sX1_ T (S.1 1 0) S.1 F c) : (S.1 (40 + c) 8 = S.1 (40 + c) 6 → 12 ≤ nI (nx_ F c 0)) ∧ (¬ S.1 (40 + c) 8 = S.1 (40 + c) 6 → ¬ 12 ≤ nI (nx_ F c 0) ∧ nx_ F c 0 < 12 ∧ le_ (S.1 (40 + c) 6 &&& (S.1 (40 + c) 8 ^^^ (-1))) = nx_ F c 0 ∧ ¬ F 87 (12 * c + nx_ F c 0) = 0) := by
  obtain ⟨x1, x2, ⟨y1, y2, y3⟩, ⟨z1, z2, z3, z4, z5, z6, z7⟩, ⟨v0, v1⟩, ⟨w0, w1, w2, w3, w4⟩⟩ := hX
  have hnb : ∀ k, k < 12 → (nb_ F c 0 k = true ↔ (¬ F 87 (12 * c + k) = 0 ∧ F 89 (12 * c + k) = 0)) := fun k hk => by
    unfold nb_
    rw [decide_eq_true_iff, if_pos rfl, pos_iff (z1 k hk)]
  have hiff := bs_iff z6 z4
  have e12 : (12 : Int32) = nI 12 := by decide
  have hext : ∀ k, k < 12 → (wb_ F c k && !pb_ F c k) = nb_ F c 0 k := fun k hk => by
    have := hnb k hk
    cases e : nb_ F c 0 k with
    | true =>
      obtain ⟨p1, p2⟩ := this.mp e
      unfold wb_ pb_
      simp [p1, p2]
    | false =>
      have hn : ¬ (¬ F 87 (12 * c + k) = 0 ∧ F 89 (12 * c + k) = 0) := fun hh => by
        rw [this.mpr hh] at e; cases e
      unfold wb_ pb_
      by_cases p1 : F 87 (12 * c + k) = 0
      · simp [p1]
      · have p3 : ¬ F 89 (12 * c + k) = 0 := fun p3 => hn ⟨p1, p3⟩
        simp [p3]
  have hle : le_ (S.1 (40 + c) 6 &&& (S.1 (40 + c) 8 ^^^ (-1))) = fb_ (nb_ F c 0) := by rw [le_fb (bs_andn z4 z6), fb_ext hext]
  have hnx := nx_fn F c 0
  constructor
  · intro e
    have hall := hiff.mp e
    rw [hnx]
    rcases fn_cases (nb_ F c 0) with ⟨e1, _⟩ | ⟨_, _, e3⟩
    · rw [e1, e12]; exact nI_le (Nat.le_refl _) (by decide)
    · exfalso
      obtain ⟨p1, p2⟩ := (hnb _ (fb_lt _)).mp e3
      have := hall _ (fb_lt (nb_ F c 0))
      unfold wb_ pb_ at this
      simp [p1, p2] at this
  · intro e
    rcases fn_cases (nb_ F c 0) with ⟨_, e2⟩ | ⟨e1, e2, e3⟩
    · exfalso
      refine e (hiff.mpr fun k hk => ?_)
      have hn : ¬ (¬ F 87 (12 * c + k) = 0 ∧ F 89 (12 * c + k) = 0) := fun hh => by
        have := (hnb k hk).mpr hh
        rw [e2 k hk] at this; cases this
      unfold wb_ pb_
      by_cases p1 : F 87 (12 * c + k) = 0
      · have p2 : F 89 (12 * c + k) = 0 := Classical.byContradiction fun p2 => z7 k hk p2 p1
        simp [p1, p2]
      · have p3 : ¬ F 89 (12 * c + k) = 0 := fun p3 => hn ⟨p1, p3⟩
        simp [p1, p3]
    · rw [hnx, hle]
      refine ⟨?_, e1, e2.symm, ?_⟩
      · rw [e12]; exact nI_ge e1 (by decide)
      · rw [e2]; exact ((hnb _ (fb_lt _)).mp e3).1
theorem sX_com {c : Nat} {nx : Int32} {A' : Nat → Nat → Int32} (hs : sim_ A B T u h q S F) (hu : u < 1000000) (hc : c < 4) (h2 : ¬ S.1 (40 + c) 2 = 0) (h3 : S.1 (40 + c) 3 = 1) (h5 : S.1 (40 + c) 5 = 0) (hA : A' = uf_ (hoC_ S.1) (40 + c) 5 (S.1 1 0)) (hn : nx = S.1 1 0 + 1) : sX_ (tu_ T (S.1 1 0) (S.1 (40 + c) 4)) nx A' (uf_ (ho_F F) 85 c (F 60 3 + 1 - 1)) c := by
  subst hA
  subst hn
  have hX := sim_x1 hs hc h2
  have h0 := (hs.2.2.2.2.2.2.1 c hc).1
  have hu1 := hs.2.1.2.2.2.2.2.1
  have e603 : F 60 3 + 1 - 1 = S.1 1 0 := by rw [hs.2.1.2.2.1]; exact Int32.add_sub_cancel _ _
  have en : (S.1 1 0 + 1).toInt = (S.1 1 0).toInt + 1 := i_add1 (by omega)
  obtain ⟨x1, x2, ⟨y1, y2, y3⟩, ⟨z1, z2, z3, z4, z5, z6, z7⟩, ⟨v0, v1⟩, ⟨w0, w1, w2, w3, w4⟩⟩ := hX
  have hrow : ∀ n, 83 ≤ n → n ≠ 85 → uf_ (ho_F F) 85 c (F 60 3 + 1 - 1) n = F n := fun n a b => by rw [uf_row _ _ _ _ _ b, ho_row (by omega)]
  have hA : ∀ j, j ≠ 5 → uf_ (hoC_ S.1) (40 + c) 5 (S.1 1 0) (40 + c) j = S.1 (40 + c) j := fun j e => by rw [uf_o _ _ _ _ _ _ (Or.inr e), hoC_row (by omega)]
  have hA5 : uf_ (hoC_ S.1) (40 + c) 5 (S.1 1 0) (50 + c) = S.1 (50 + c) := by rw [uf_row _ _ _ _ _ (by omega), hoC_row (by omega)]
  have ef : fi_ (uf_ (ho_F F) 85 c (F 60 3 + 1 - 1)) c = fi_ F c := fi_row (hrow 87 (by omega) (by omega))
  refine ⟨by rw [hA 0 (by omega)]; exact h0, Or.inr ⟨by rw [hA 2 (by omega)]; exact x1, ?_, ⟨?_, ?_, ?_⟩, ?_, ?_, ⟨?_, ?_, ?_, ?_, ?_⟩⟩⟩
  · rw [hA 3 (by omega), hrow 83 (by omega) (by omega)]; exact x2
  · rw [hA 4 (by omega), hrow 84 (by omega) (by omega)]; exact y1
  · rw [uf_s, uf_s, e603]
  · rw [hA 10 (by omega), hrow 86 (by omega) (by omega)]; exact y3
  · unfold sO2_ wb_ wv_ pb_
    rw [hrow 87 (by omega) (by omega), hrow 88 (by omega) (by omega), hrow 89 (by omega) (by omega), hA5, hA 6 (by omega), hA 7 (by omega), hA 8 (by omega)]
    exact ⟨z1, z2, z3, z4, z5, z6, z7⟩
  · unfold sO3_ fb2_
    rw [hrow 87 (by omega) (by omega), hrow 90 (by omega) (by omega), ef, hA 10 (by omega), hA 9 (by omega)]
    exact ⟨v0, v1⟩
  · rw [hA 3 (by omega), h3]; intro e; exact absurd e (by decide)
  · rw [hA 4 (by omega), tu_o w3]; exact w1
  · rw [hA 4 (by omega)]; exact w2
  · rw [hA 4 (by omega), en]; omega
  · right
    rw [hA 4 (by omega), uf_s, tu_s]
    exact ⟨w3, by rw [en]; omega, rfl⟩
set_option maxHeartbeats 1000000 in
theorem av_sim {c : Nat} {K : Int32 → ss_ → Prop} (hs : sim_ A B T u h q S F) (hu : u < 1000000) (hc : c < 4) (hq : q < 4000) (h2 : ¬ S.1 (40 + c) 2 = 0) (h3 : S.1 (40 + c) 3 = 1)
    (hK : ∀ r S1 r' F1 T1, (∀ K', K' r' F1 → sq_ F c K') → ar_ F r r' F1 → sim_ A B T1 (u + 1) (fun i => h i + 1) (q + 2) S1 F1 → K r S1) : avC_ S c K := by
  have hX := sim_x1 hs hc h2
  have y2 : F 85 c = S.1 (40 + c) 5 := hX.2.2.1.2.1
  have z4 := hX.2.2.2.1.2.2.2.1
  have hm : sim_ A B T (u + 1) (fun i => h i + 1) (q + 2) S F := sim_mono hs (by omega) (fun _ _ => by omega) (by omega)
  have hup : ∀ {S1 : ss_} {F1 : Nat → Nat → Int32}, sim_ A B T u (fun i => h i + 1) (q + 2) S1 F1 → sim_ A B T (u + 1) (fun i => h i + 1) (q + 2) S1 F1 := fun hh => sim_mono hh (by omega) (fun _ _ => Nat.le_refl _) (Nat.le_refl _)
  unfold avC_
  by_cases h6 : S.1 (40 + c) 6 = 0
  · rw [if_pos h6]
    have hw : F 87 (12 * c + fi_ F c) = 0 := by
      have := (bs_z z4).mp h6 (fi_ F c) (fi_lt F c)
      unfold wb_ at this
      exact Classical.byContradiction fun e => by simp [e] at this
    refine hK 7 _ 7 (uf_ F 83 c 0) T (fun K' hK' => ?_) (Or.inr ⟨by decide, rfl, by rw [uf_o _ _ _ _ _ _ (by omega)]⟩) (sim_close0 hm hc)
    unfold sq_
    rw [if_pos hw]
    exact hK'
  · rw [if_neg h6]
    have hw := fi_w z4 h6
    obtain ⟨n1, n2⟩ := nx_pw hX
    by_cases h8 : S.1 (40 + c) 8 = S.1 (40 + c) 6
    · rw [if_pos h8]
      have hn := n1 h8
      by_cases h5 : S.1 (40 + c) 5 = 0
      · rw [if_pos h5]
        refine hK 2 _ 2 (uf_ (ho_F F) 85 c (F 60 3 + 1 - 1)) (tu_ T (S.1 1 0) (S.1 (40 + c) 4)) (fun K' hK' => ?_) (Or.inr ⟨by decide, rfl, ?_⟩) ?_
        · unfold sq_
          rw [if_neg hw, if_pos hn, if_pos (by rw [y2]; exact h5)]
          exact hK'
        · rw [uf_o _ _ _ _ _ _ (by omega), ho_o (by omega)]
        · refine sim_mono (sim_ho (y := S.1 (40 + c) 4) hs hu hc (fun n a b _ => ?_) ?_ (fun n hn => uf_row _ _ _ _ _ (by omega)) (fun n j a b e => ?_) (fun n j a b e => ?_) (sX_com hs hu hc h2 h3 h5 rfl ?_)) (Int.le_refl _) (fun _ _ => by omega) (by omega)
          · rw [uf_row _ _ _ _ _ b, hoC_row a]
          · rw [uf_row _ _ _ _ _ (by omega)]
          · rw [uf_o _ _ _ _ _ _ (by omega), ho_o (by omega)]
          · rw [uf_row _ _ _ _ _ (by omega), ho_row (by omega)]
          · rw [uf_o _ _ _ _ _ _ (by omega)]; exact hoC_at.1
      · rw [if_neg h5]
        have h5' : ¬ F 85 c = 0 := by rw [y2]; exact h5
        by_cases h10 : S.1 (40 + c) 10 = 0
        · rw [if_pos h10]
          have h86 : F 86 c = 0 := by
            rcases hX.2.2.1.2.2 with ⟨_, e⟩ | ⟨e, _⟩
            · exact e
            · rw [e] at h10; exact absurd h10 (by decide)
          refine dc_sim hs hc hq h2 h3 h6 h10 h5 (fun r S1 r' F1 a b d => hK r S1 r' F1 T (fun K' hK' => ?_) b (hup d))
          unfold sq_
          rw [if_neg hw, if_pos hn, if_neg h5', if_pos h86]
          generalize de_ F c = W at a ⊢
          exact a K' hK'
        · rw [if_neg h10]
          have h86 : ¬ F 86 c = 0 := by
            rcases hX.2.2.1.2.2 with ⟨e, _⟩ | ⟨_, e⟩
            · exact absurd e h10
            · rw [e]; decide
          refine fo_sim hs hc hq h2 h3 h10 h5 (fun r S1 r' F1 a b d => hK r S1 r' F1 T (fun K' hK' => ?_) b (hup d))
          unfold sq_
          rw [if_neg hw, if_pos hn, if_neg h5', if_neg h86]
          generalize fo_ F c = W at a ⊢
          exact a K' hK'
    · rw [if_neg h8]
      obtain ⟨m1, m2, m3, m4⟩ := n2 h8
      unfold pwC_
      rw [m3]
      refine pw_sim hs hc m2 hq h2 h3 m4 (fun r S1 r' F1 a b d => hK r S1 r' F1 T (fun K' hK' => ?_) b (hup d))
      unfold sq_
      rw [if_neg hw, if_neg m1]
      generalize pw_ F c (nx_ F c 0) = W at a ⊢
      exact a K' hK'
end SM
