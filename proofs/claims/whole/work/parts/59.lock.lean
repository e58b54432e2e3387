section SM
variable {A B : Nat → Nat → Int32} {T : Int32 → Int32} {u : Int} {h : Nat → Nat} {q : Nat} {S : ss_} {F : Nat → Nat → Int32}
theorem sim_x {c : Nat} {A' F' : Nat → Nat → Int32} (hs : sim_ A B T u h q S F) (hc : c < 4) (hA : ∀ n, n ≠ 40 + c → n ≠ 50 + c → A' n = S.1 n) (hF : ∀ n, n < 83 ∨ 90 < n → F' n = F n) (hF2 : ∀ n j, 83 ≤ n → n ≤ 86 → j ≠ c → F' n j = F n j) (hF3 : ∀ n j, 87 ≤ n → n ≤ 90 → j / 12 ≠ c → F' n j = F n j) (hX : sX_ T (S.1 1 0) A' F' c) : sim_ A B T u h q (A', S.2) F' := by
  obtain ⟨⟨h1, h2⟩, h3, h4, h5, h6, h7, h8, h9, h10⟩ := hs
  have e1 : A' 1 = S.1 1 := hA 1 (by omega) (by omega)
  have hrec : rec_ F' = rec_ F := by unfold rec_; rw [hF 60 (by omega)]
  refine ⟨⟨fun n j hn => ?_, fun n j hn => ?_⟩, sA_row h3 (hA 0 (by omega) (by omega)) e1 (fun j _ _ => by rw [hF 60 (by omega)]), fun t ht => ?_, ok_row h5 (hF _ (by omega)) (hF _ (by omega)), fun i hi => ?_, fun i hi => ?_, fun c' hc' => ?_, ?_, ?_⟩
  · show A' n j = _
    rw [hA n (by omega) (by omega)]; exact h1 n j hn
  · rw [hF n (by omega)]; exact h2 n j hn
  · exact sB_row (h4 t ht) (hA _ (by omega) (by omega)) (fun n _ _ => by rw [hF n (by omega)])
  · show sl_ T (A' 1 0) _ _ _ _
    rw [e1]
    exact sl_row (h6 i hi) (fun n _ _ => by rw [hF n (by omega)])
  · exact sV_row (h7 i hi) e1 (hA _ (by omega) (by omega)) (fun n _ _ => hF n (by omega)) (by rw [hF 60 (by omega)])
  · show sX_ T (A' 1 0) A' F' c'
    rw [e1]
    by_cases e : c' = c
    · subst e; exact hX
    · exact sX_row (h8 c' hc') (hA _ (by omega) (by omega)) (hA _ (by omega) (by omega)) (fun n a b => hF2 n c' a b e) (fun n i a b hi => hF3 n _ a b (by omega))
  · rw [hrec, hF 60 (by omega)]; exact h9
  · rw [hrec]; exact h10
theorem sim_err {x : Int32} (hs : sim_ A B T u h q S F) : sim_ A B T u h q S (uf_ F 60 1 x) := by
  obtain ⟨⟨h1, h2⟩, h3, h4, h5, h6, h7, h8, h9, h10⟩ := hs
  have hrow : ∀ n, n ≠ 60 → uf_ F 60 1 x n = F n := fun n hn => uf_row _ _ _ _ _ hn
  have h60 : ∀ j, j ≠ 1 → uf_ F 60 1 x 60 j = F 60 j := fun j hj => uf_o _ _ _ _ _ _ (Or.inr hj)
  have hrec : rec_ (uf_ F 60 1 x) = rec_ F := by unfold rec_; rw [h60 11 (by omega)]
  refine ⟨⟨h1, fun n j hn => by rw [hrow n (by omega)]; exact h2 n j hn⟩, sA_row h3 rfl rfl (fun j _ hj => h60 j hj), fun t ht => sB_row (h4 t ht) rfl (fun n _ _ => by rw [hrow n (by omega)]), ok_row h5 (hrow _ (by omega)) (hrow _ (by omega)), fun i hi => sl_row (h6 i hi) (fun n _ _ => by rw [hrow n (by omega)]), fun i hi => sV_row (h7 i hi) rfl rfl (fun n _ _ => hrow n (by omega)) (h60 11 (by omega)), fun c hc => sX_row (h8 c hc) rfl rfl (fun n _ _ => by rw [hrow n (by omega)]) (fun n i _ _ _ => by rw [hrow n (by omega)]), ?_, ?_⟩
  · rw [hrec, h60 11 (by omega)]; exact h9
  · rw [hrec]; exact h10
theorem tr_row {c n : Nat} (hn : n ≠ 40 + c) : trE_ F c n = F n := by
  unfold trE_
  rw [uf_row _ _ _ _ _ hn, uf_row _ _ _ _ _ hn, uf_row _ _ _ _ _ hn, uf_row _ _ _ _ _ hn, uf_row _ _ _ _ _ hn, uf_row _ _ _ _ _ hn, uf_row _ _ _ _ _ hn, uf_row _ _ _ _ _ hn, uf_row _ _ _ _ _ hn]
theorem tr_0 {c : Nat} : trE_ F c (40 + c) 0 = F (40 + c) 0 := by
  unfold trE_
  rw [uf_o _ _ _ _ _ _ (by omega), uf_o _ _ _ _ _ _ (by omega), uf_o _ _ _ _ _ _ (by omega), uf_o _ _ _ _ _ _ (by omega), uf_o _ _ _ _ _ _ (by omega), uf_o _ _ _ _ _ _ (by omega), uf_o _ _ _ _ _ _ (by omega), uf_o _ _ _ _ _ _ (by omega), uf_o _ _ _ _ _ _ (by omega)]
theorem tr_z {c j : Nat} (h1 : 2 ≤ j) (h2 : j ≤ 10) : trE_ F c (40 + c) j = 0 := by
  unfold trE_
  simp only [uf_at, true_and]
  by_cases e10 : j = 10
  · rw [if_pos e10]
  · rw [if_neg e10]
    by_cases e9 : j = 9
    · rw [if_pos e9]
    · rw [if_neg e9]
      by_cases e8 : j = 8
      · rw [if_pos e8]
      · rw [if_neg e8]
        by_cases e7 : j = 7
        · rw [if_pos e7]
        · rw [if_neg e7]
          by_cases e6 : j = 6
          · rw [if_pos e6]
          · rw [if_neg e6]
            by_cases e5 : j = 5
            · rw [if_pos e5]
            · rw [if_neg e5]
              by_cases e4 : j = 4
              · rw [if_pos e4]
              · rw [if_neg e4]
                by_cases e3 : j = 3
                · rw [if_pos e3]
                · rw [if_neg e3, if_pos (by omega)]
theorem sim_close {c : Nat} {A' F' : Nat → Nat → Int32} (hs : sim_ A B T u h q S F) (hc : c < 4) (hA : ∀ n, n ≠ 40 + c → A' n = S.1 n) (hA0 : A' (40 + c) 0 = S.1 (40 + c) 0) (hF : ∀ n, n < 83 ∨ 90 < n → F' n = F n) (hF2 : ∀ n j, 83 ≤ n → n ≤ 86 → j ≠ c → F' n j = F n j) (hF3 : ∀ n j, 87 ≤ n → n ≤ 90 → j / 12 ≠ c → F' n j = F n j) : sim_ A B T u h q (trE_ A' c, S.2) (uf_ F' 83 c 0) := by
  refine sim_x hs hc (fun n a b => by rw [tr_row a]; exact hA n a) (fun n hn => by rw [uf_row _ _ _ _ _ (by omega)]; exact hF n hn) (fun n j a b e => by rw [uf_o _ _ _ _ _ _ (Or.inr e)]; exact hF2 n j a b e) (fun n j a b e => by rw [uf_row _ _ _ _ _ (by omega)]; exact hF3 n j a b e) ⟨?_, Or.inl ⟨tr_z (by omega) (by omega), uf_s _ _ _ _, fun j a b => tr_z a b⟩⟩
  rw [tr_0, hA0]
  exact (hs.2.2.2.2.2.2.1 c hc).1
theorem sim_close0 {c : Nat} (hs : sim_ A B T u h q S F) (hc : c < 4) : sim_ A B T u h q (trE_ S.1 c, S.2) (uf_ F 83 c 0) :=
  sim_close hs hc (fun _ _ => rfl) rfl (fun _ _ => rfl) (fun _ _ _ _ _ => rfl) (fun _ _ _ _ _ => rfl)
theorem sim_x1 {c : Nat} (hs : sim_ A B T u h q S F) (hc : c < 4) (h2 : ¬ S.1 (40 + c) 2 = 0) : sX1_ T (S.1 1 0) S.1 F c := by
  rcases (hs.2.2.2.2.2.2.1 c hc).2 with ⟨e, _⟩ | e
  · exact absurd e h2
  · exact e
def lkM_ (F : Nat → Nat → Int32) (c i : Nat) (p : Int32) (G : Nat → Nat → Int32) : Nat → Nat → Int32 := uf_ (uf_ (uf_ (uf_ (uf_ (uf_ G 65 i (F 84 c)) 66 i p) 67 i (nI c)) 68 i (F 60 2)) 69 i (F 87 (12 * c + i))) 70 i (F 88 (12 * c + i))
theorem lkM_row {G : Nat → Nat → Int32} {c i n : Nat} {p : Int32} (hn : n < 65 ∨ 70 < n) : lkM_ F c i p G n = G n := by
  unfold lkM_
  rw [uf_row _ _ _ _ _ (by omega), uf_row _ _ _ _ _ (by omega), uf_row _ _ _ _ _ (by omega), uf_row _ _ _ _ _ (by omega), uf_row _ _ _ _ _ (by omega), uf_row _ _ _ _ _ (by omega)]
theorem lkM_o {G : Nat → Nat → Int32} {c i n j : Nat} {p : Int32} (hj : j ≠ i) : lkM_ F c i p G n j = G n j := by
  unfold lkM_
  rw [uf_o _ _ _ _ _ _ (Or.inr hj), uf_o _ _ _ _ _ _ (Or.inr hj), uf_o _ _ _ _ _ _ (Or.inr hj), uf_o _ _ _ _ _ _ (Or.inr hj), uf_o _ _ _ _ _ _ (Or.inr hj), uf_o _ _ _ _ _ _ (Or.inr hj)]
theorem lkM_v {G : Nat → Nat → Int32} {c i : Nat} {p : Int32} : lkM_ F c i p G 65 i = F 84 c ∧ lkM_ F c i p G 66 i = p ∧ lkM_ F c i p G 67 i = nI c ∧ lkM_ F c i p G 68 i = F 60 2 ∧ lkM_ F c i p G 69 i = F 87 (12 * c + i) ∧ lkM_ F c i p G 70 i = F 88 (12 * c + i) := by
  unfold lkM_
  refine ⟨?_, ?_, ?_, ?_, ?_, ?_⟩
  · rw [uf_o _ _ _ _ _ _ (by omega), uf_o _ _ _ _ _ _ (by omega), uf_o _ _ _ _ _ _ (by omega), uf_o _ _ _ _ _ _ (by omega), uf_o _ _ _ _ _ _ (by omega), uf_s]
  · rw [uf_o _ _ _ _ _ _ (by omega), uf_o _ _ _ _ _ _ (by omega), uf_o _ _ _ _ _ _ (by omega), uf_o _ _ _ _ _ _ (by omega), uf_s]
  · rw [uf_o _ _ _ _ _ _ (by omega), uf_o _ _ _ _ _ _ (by omega), uf_o _ _ _ _ _ _ (by omega), uf_s]
  · rw [uf_o _ _ _ _ _ _ (by omega), uf_o _ _ _ _ _ _ (by omega), uf_s]
  · rw [uf_o _ _ _ _ _ _ (by omega), uf_s]
  · rw [uf_s]
theorem sim_lkM {c i : Nat} {f : Nat → Int32} {F0 : Nat → Nat → Int32} (hs : sim_ A B T u h q S F) (hc : c < 4) (hi : i < 12) (p : Nat) (hp : p < 12)
    (hl : ∀ G : Nat → Nat → Int32, G 65 i = F0 84 c → G 66 i = nI p → G 67 i = nI c → G 68 i = F0 60 2 → G 69 i = F0 87 (12 * c + i) → G 70 i = F0 88 (12 * c + i) → sl_ T (S.1 1 0) (S.2.2 i) G i (some f)) : sim_ A B T u h q (S.1, up_ S.2.1 i (some f), S.2.2) (lkM_ F0 c i (nI p) F) := by
  obtain ⟨⟨h1, h2⟩, h3, h4, h5, h6, h7, h8, h9, h10⟩ := hs
  have hrow : ∀ n, (n < 65 ∨ 70 < n) → lkM_ F0 c i (nI p) F n = F n := fun n hn => lkM_row hn
  have hrec : rec_ (lkM_ F0 c i (nI p) F) = rec_ F := by unfold rec_; rw [hrow 60 (by omega)]
  obtain ⟨v0, v1, v2, v3, v4, v5⟩ := lkM_v (F := F0) (G := F) (c := c) (i := i) (p := nI p)
  refine ⟨⟨h1, fun n j hn => by rw [hrow n (by omega)]; exact h2 n j hn⟩, sA_row h3 rfl rfl (fun j _ hj => by rw [hrow 60 (by omega)]), fun t ht => sB_row (h4 t ht) rfl (fun n _ _ => by rw [hrow n (by omega)]), ⟨fun i' hi' => ?_, fun i' hi' => ?_⟩, fun i' hi' => ?_, fun i hi => sV_row (h7 i hi) rfl rfl (fun n _ _ => hrow n (by omega)) (by rw [hrow 60 (by omega)]), fun c hc => sX_row (h8 c hc) rfl rfl (fun n _ _ => by rw [hrow n (by omega)]) (fun n i _ _ _ => by rw [hrow n (by omega)]), ?_, ?_⟩
  · unfold pn_
    by_cases e : i' = i
    · subst e; rw [v1, nI_clamp (by omega)]; exact ⟨rfl, hp⟩
    · rw [lkM_o e]; exact h5.1 i' hi'
  · unfold on_
    by_cases e : i' = i
    · subst e; rw [v2, nI_clamp (by omega)]; exact ⟨rfl, hc⟩
    · rw [lkM_o e]; exact h5.2 i' hi'
  · show sl_ T _ _ _ _ (up_ S.2.1 i (some f) i')
    by_cases e : i' = i
    · subst e; rw [up_s]
      exact hl _ v0 v1 v2 v3 v4 v5
    · rw [up_o _ _ _ _ e]
      exact sl_row (h6 i' hi') (fun n _ _ => lkM_o e)
  · rw [hrec, hrow 60 (by omega)]; exact h9
  · rw [hrec]; exact h10
theorem sim_wl {c i : Nat} (hs : sim_ A B T u h q S F) (hc : c < 4) (hi : i < 12) (h2 : ¬ S.1 (40 + c) 2 = 0) (hw : ¬ F 87 (12 * c + i) = 0) (hn : ∀ v ∈ S.2.2 i, ¬ v.2.1 = S.1 (40 + c) 4) :
    sim_ A B T u h q (wl_ S i (lkF_ S.1 c i (S.1 0 5))) (lo_F F c i (nI (fi_ F c))) ∧ (plF_ S.1 (i / 4) (10 + i / 4) 0 = 0 ↔ lo_r F c i (nI (fi_ F c)) = 0) := by
  have hl := sim_log (t := i / 4) hs (by omega)
  have hg2 : en_g F (i / 4) = plr_ S.1 (i / 4) := en_g0 (hs.2.2.1 (i / 4) (by omega))
  have hb := sB_log (hs.2.2.1 (i / 4) (by omega))
  have e77 : lo_F F c i (nI (fi_ F c)) 77 (i / 4) = en_F F (i / 4) 77 (i / 4) := by
    show (if _ then _ else lkM_ F c i (nI (fi_ F c)) (en_F F (i / 4))) 77 (i / 4) = _
    split
    · rfl
    · rw [lkM_row (by omega)]
  constructor
  · show sim_ A B T u h q (plF_ S.1 (i / 4), (if plr_ S.1 (i / 4) = 0 then S.2.1 else up_ S.2.1 i (some (lkF_ S.1 c i (S.1 0 5)))), S.2.2) (if en_g F (i / 4) = 0 then en_F F (i / 4) else lkM_ F c i (nI (fi_ F c)) (en_F F (i / 4)))
    rw [hg2]
    by_cases hp : plr_ S.1 (i / 4) = 0
    · rw [if_pos hp, if_pos hp]; exact hl
    · rw [if_neg hp, if_neg hp]
      refine sim_lkM (S := (plF_ S.1 (i / 4), S.2)) hl hc hi (fi_ F c) (fi_lt F c) (fun G g0 g1 g2 g3 g4 g5 => ?_)
      obtain ⟨x1, x2, ⟨y1, y2, y3⟩, ⟨z1, z2, z3, z4, z5, z6, z7⟩, x5, ⟨w0, w1, w2, w3, w4⟩⟩ := sim_x1 hs hc h2
      have e1 : plF_ S.1 (i / 4) 1 = S.1 1 := pl_row _ _ _ (by omega)
      show sl_ T (plF_ S.1 (i / 4) 1 0) _ _ _ _
      rw [e1]
      unfold sl_
      rw [g0, g1, g2, g3, g4, g5]
      refine ⟨y1.symm, ?_, (hs.2.2.2.2.2.2.1 c hc).1, hs.2.1.2.1.symm, ?_, (z2 i hi hw).symm, ?_, ?_, ?_, ?_⟩
      · show nI (le_ (S.1 (40 + c) 6)) = _
        rw [le_fb z4, fi_fb]
      · show (_ ∧ (if bt_ (S.1 (40 + c) 7) i = 1 then (1 : Int32) else 0) = 0) ∨ (_ ∧ (if bt_ (S.1 (40 + c) 7) i = 1 then (1 : Int32) else 0) = 1 ∧ _)
        rw [bs_bt z5 hi]
        unfold wv_
        rcases z1 i hi with e | e | e
        · exact absurd e hw
        · left
          rw [e]; exact ⟨rfl, by decide⟩
        · right
          rw [e]; exact ⟨rfl, by decide, z3 i hi e⟩
      · rw [y1]; exact w1
      · rw [y1]; exact w2
      · rw [y1]; exact w3
      · rw [y1]; exact hn
  · unfold lo_r
    rw [e77]
    rcases hb.1 with ⟨a, b⟩ | ⟨a, b⟩
    · rw [a, b]; decide
    · rw [a, b]; decide
theorem ov_no {x : Int32} {V : List vv_} {nx : Int32} (hg : ∀ v ∈ V, sg2_ T nx v) (ho : ovc_ x V = 0) : ∀ v ∈ V, ¬ v.2.1 = x := by
  intro v hv e
  rcases ovc_p V x with ⟨a, _⟩ | ⟨_, a⟩
  · rw [a] at ho; exact absurd ho (by decide)
  · refine a v hv ?_
    by_cases h3 : v.2.2.1 = 3
    · exact Or.inl ⟨h3, e⟩
    · refine Or.inr ⟨h3, ?_⟩
      have := (hg v hv).2.2.2.2.1 h3
      rw [Int32.le_iff_toInt_le, ← e]; omega
end SM
