section OPS
variable {S : ss_}
theorem sim_tab {A B : Nat → Nat → Int32} {T : Int32 → Int32} {u : Int} {h : Nat → Nat} {q : Nat} {F A' F' : Nat → Nat → Int32} {t : Nat} (hs : sim_ A B T u h q S F) (ht : t < 3) (hA : ∀ n, n ≠ 10 + t → A' n = S.1 n) (hF : ∀ n, n < 77 ∨ 82 < n → F' n = F n) (hF2 : ∀ n j, 77 ≤ n → n ≤ 82 → j ≠ t → F' n j = F n j) (hB : sB_ A' F' t) : sim_ A B T u h q (A', S.2) F' := by
  obtain ⟨⟨h1, h2⟩, h3, h4, h5, h6, h7, h8, h9, h10⟩ := hs
  have e1 : A' 1 = S.1 1 := hA 1 (by omega)
  have hrec : rec_ F' = rec_ F := by unfold rec_; rw [hF 60 (by omega)]
  refine ⟨⟨fun n j hn => ?_, fun n j hn => ?_⟩, sA_row h3 (hA 0 (by omega)) e1 (fun j _ _ => by rw [hF 60 (by omega)]), fun t' ht' => ?_, ok_row h5 (hF _ (by omega)) (hF _ (by omega)), fun i hi => ?_, fun i hi => ?_, fun c' hc' => ?_, ?_, ?_⟩
  · show A' n j = _
    rw [hA n (by omega)]; exact h1 n j hn
  · rw [hF n (by omega)]; exact h2 n j hn
  · show sB_ A' F' t'
    by_cases e : t' = t
    · subst e; exact hB
    · exact sB_row (h4 t' ht') (hA _ (by omega)) (fun n a b => hF2 n t' a b e)
  · show sl_ T (A' 1 0) _ _ _ _
    rw [e1]
    exact sl_row (h6 i hi) (fun n _ _ => by rw [hF n (by omega)])
  · exact sV_row (h7 i hi) e1 (hA _ (by omega)) (fun n _ _ => hF n (by omega)) (by rw [hF 60 (by omega)])
  · show sX_ T (A' 1 0) A' F' c'
    rw [e1]
    exact sX_row (h8 c' hc') (hA _ (by omega)) (hA _ (by omega)) (fun n a b => by rw [hF n (by omega)]) (fun n i a b hi => by rw [hF n (by omega)])
  · rw [hrec, hF 60 (by omega)]; exact h9
  · rw [hrec]; exact h10
theorem op_cr {t : Nat} (ht : t < 3) : op_ cdn_ (fun K => crC_ S t (fun r S1 => K (0, r, S1))) (fun F K => cr_ F t K) S := by
  intro A B T u m q F hu hq hm hF hs
  have hm0 : sim_ A B T (u + 8) (fun _ => m + 1) (q + 2) S F := sim_mono hs (by omega) (fun _ _ => by omega) (by omega)
  have hup := up_iff hs ht
  obtain ⟨b1, b2, b3, b4, b5, b6, b7, b8⟩ := hs.2.2.1 t ht
  unfold crC_
  by_cases h0 : S.1 (10 + t) 0 = 0
  · rw [if_pos h0]
    refine ⟨0, F, T, fun K' hK' => ?_, Or.inl ⟨rfl, hF, rfl⟩, hm0⟩
    show cr_ F t K'
    unfold cr_
    rw [if_neg (hup.mp h0)]; exact hK'
  · rw [if_neg h0]
    have h77 : F 77 t = 0 := Classical.byContradiction fun e => h0 (hup.mpr e)
    refine ⟨1, uf_ F 77 t 1, T, fun K' hK' => ?_, Or.inl ⟨rfl, by rw [uf_o _ _ _ _ _ _ (by omega)]; exact hF, rfl⟩, sim_tab hm0 ht (fun n hn => uf_row _ _ _ _ _ hn) (fun n hn => uf_row _ _ _ _ _ (by omega)) (fun n j a b e => uf_o _ _ _ _ _ _ (Or.inr e)) ⟨?_, ?_, ?_, ?_, ?_, ?_, ?_, ?_⟩⟩
    · show cr_ F t K'
      unfold cr_
      rw [if_pos h77]; exact hK'
    · rw [uf_s, uf_s]; exact Or.inr ⟨rfl, rfl⟩
    · rw [uf_o _ _ _ _ _ _ (by omega), uf_o _ _ _ _ _ _ (by omega)]; exact b2
    · rw [uf_o _ _ _ _ _ _ (by omega), uf_o _ _ _ _ _ _ (by omega)]; exact b3
    · rw [uf_o _ _ _ _ _ _ (by omega), uf_o _ _ _ _ _ _ (by omega)]; exact b4
    · rw [uf_o _ _ _ _ _ _ (by omega), uf_o _ _ _ _ _ _ (by omega)]; exact b5
    · rw [uf_o _ _ _ _ _ _ (by omega), uf_o _ _ _ _ _ _ (by omega)]; exact b6
    · rw [uf_o _ _ _ _ _ _ (by omega)]; exact b7
    · rw [uf_o _ _ _ _ _ _ (by omega)]; exact b8
theorem op_re {t : Nat} (ht : t < 3) : op_ cdn_ (fun K => reC_ S t (fun r S1 => K (0, r, S1))) (fun F K => re_ F t K) S := by
  intro A B T u m q F hu hq hm hF hs
  have hm0 : sim_ A B T (u + 8) (fun _ => m + 1) (q + 2) S F := sim_mono hs (by omega) (fun _ _ => by omega) (by omega)
  have hup := up_iff hs ht
  obtain ⟨b1, b2, b3, b4, b5, b6, b7, b8⟩ := hs.2.2.1 t ht
  unfold reC_
  by_cases h0 : S.1 (10 + t) 0 = 0
  · rw [if_pos h0]
    refine ⟨1, uf_ (uf_ F 77 t 0) 81 t 0, T, fun K' hK' => ?_, Or.inl ⟨rfl, by rw [uf_o _ _ _ _ _ _ (by omega), uf_o _ _ _ _ _ _ (by omega)]; exact hF, rfl⟩, sim_tab hm0 ht (fun n hn => by rw [uf_row _ _ _ _ _ hn, uf_row _ _ _ _ _ hn]) (fun n hn => by rw [uf_row _ _ _ _ _ (by omega), uf_row _ _ _ _ _ (by omega)]) (fun n j a b e => by rw [uf_o _ _ _ _ _ _ (Or.inr e), uf_o _ _ _ _ _ _ (Or.inr e)]) ⟨?_, ?_, ?_, ?_, ?_, ?_, ?_, ?_⟩⟩
    · show re_ F t K'
      unfold re_
      rw [if_neg (hup.mp h0)]; exact hK'
    · rw [uf_o _ _ _ _ _ _ (by omega), uf_s, uf_o _ _ _ _ _ _ (by omega), uf_s]; exact Or.inl ⟨rfl, rfl⟩
    · rw [uf_o _ _ _ _ _ _ (by omega), uf_o _ _ _ _ _ _ (by omega), uf_o _ _ _ _ _ _ (by omega), uf_o _ _ _ _ _ _ (by omega)]; exact b2
    · rw [uf_o _ _ _ _ _ _ (by omega), uf_o _ _ _ _ _ _ (by omega), uf_o _ _ _ _ _ _ (by omega), uf_o _ _ _ _ _ _ (by omega)]; exact b3
    · rw [uf_o _ _ _ _ _ _ (by omega), uf_o _ _ _ _ _ _ (by omega), uf_o _ _ _ _ _ _ (by omega), uf_o _ _ _ _ _ _ (by omega)]; exact b4
    · rw [uf_s, uf_s]; exact Or.inl ⟨by decide, rfl⟩
    · rw [uf_o _ _ _ _ _ _ (by omega), uf_o _ _ _ _ _ _ (by omega), uf_o _ _ _ _ _ _ (by omega), uf_o _ _ _ _ _ _ (by omega)]; exact b6
    · rw [uf_o _ _ _ _ _ _ (by omega), uf_o _ _ _ _ _ _ (by omega)]; exact b7
    · rw [uf_o _ _ _ _ _ _ (by omega), uf_o _ _ _ _ _ _ (by omega)]; exact b8
  · rw [if_neg h0]
    have h77 : F 77 t = 0 := Classical.byContradiction fun e => h0 (hup.mpr e)
    refine ⟨0, F, T, fun K' hK' => ?_, Or.inl ⟨rfl, hF, rfl⟩, hm0⟩
    show re_ F t K'
    unfold re_
    rw [if_pos h77]; exact hK'
def faY_ (t : Nat) (x z : Int32) : mw_ := fun F K => if x < 0 ∨ 20 < x then K 0 F else K 1 (uf_ (uf_ F 81 t x) 82 t z)
theorem op_fa {t : Nat} {x z : Int32} (ht : t < 3) : op_ cdn_ (fun K => faC_ S t x z (fun r S1 => K (0, r, S1))) (faY_ t x z) S := by
  intro A B T u m q F hu hq hm hF hs
  have hm0 : sim_ A B T (u + 8) (fun _ => m + 1) (q + 2) S F := sim_mono hs (by omega) (fun _ _ => by omega) (by omega)
  obtain ⟨b1, b2, b3, b4, b5, b6, b7, b8⟩ := hs.2.2.1 t ht
  unfold faC_
  by_cases h1 : x < 0
  · rw [if_pos h1]
    refine ⟨0, F, T, fun K' hK' => ?_, Or.inl ⟨rfl, hF, rfl⟩, hm0⟩
    unfold faY_
    rw [if_pos (Or.inl h1)]; exact hK'
  · rw [if_neg h1]
    by_cases h2 : x ≤ 20
    · rw [if_pos h2]
      refine ⟨1, uf_ (uf_ F 81 t x) 82 t z, T, fun K' hK' => ?_, Or.inl ⟨rfl, by rw [uf_o _ _ _ _ _ _ (by omega), uf_o _ _ _ _ _ _ (by omega)]; exact hF, rfl⟩, sim_tab hm0 ht (fun n hn => by rw [uf_row _ _ _ _ _ hn, uf_row _ _ _ _ _ hn]) (fun n hn => by rw [uf_row _ _ _ _ _ (by omega), uf_row _ _ _ _ _ (by omega)]) (fun n j a b e => by rw [uf_o _ _ _ _ _ _ (Or.inr e), uf_o _ _ _ _ _ _ (Or.inr e)]) ⟨?_, ?_, ?_, ?_, ?_, ?_, ?_, ?_⟩⟩
      · unfold faY_
        rw [if_neg (fun e => e.elim h1 (fun e => mm_nlt h2 e))]; exact hK'
      · rw [uf_o _ _ _ _ _ _ (by omega), uf_o _ _ _ _ _ _ (by omega), uf_o _ _ _ _ _ _ (by omega), uf_o _ _ _ _ _ _ (by omega)]; exact b1
      · rw [uf_o _ _ _ _ _ _ (by omega), uf_o _ _ _ _ _ _ (by omega), uf_o _ _ _ _ _ _ (by omega), uf_o _ _ _ _ _ _ (by omega)]; exact b2
      · rw [uf_o _ _ _ _ _ _ (by omega), uf_o _ _ _ _ _ _ (by omega), uf_o _ _ _ _ _ _ (by omega), uf_o _ _ _ _ _ _ (by omega)]; exact b3
      · rw [uf_o _ _ _ _ _ _ (by omega), uf_o _ _ _ _ _ _ (by omega), uf_o _ _ _ _ _ _ (by omega), uf_o _ _ _ _ _ _ (by omega)]; exact b4
      · rw [uf_o _ _ _ _ _ _ (by omega), uf_s, uf_o _ _ _ _ _ _ (by omega), uf_s]
        by_cases h0 : x = 0
        · rw [h0]; exact Or.inl ⟨by decide, rfl⟩
        · refine Or.inr ⟨?_, rfl⟩
          rw [Int32.lt_iff_toInt_lt, i_0] at h1 ⊢
          have : x.toInt ≠ 0 := fun e => h0 (i_eq (by rw [e, i_0]))
          omega
      · rw [uf_s, uf_s]
      · rw [uf_o _ _ _ _ _ _ (by omega), uf_o _ _ _ _ _ _ (by omega)]; exact b7
      · rw [uf_o _ _ _ _ _ _ (by omega), uf_o _ _ _ _ _ _ (by omega)]; exact b8
    · rw [if_neg h2]
      refine ⟨0, F, T, fun K' hK' => ?_, Or.inl ⟨rfl, hF, rfl⟩, hm0⟩
      unfold faY_
      rw [if_pos (Or.inr (mm_lt h2))]; exact hK'
def tkY_ (x : Int32) : mw_ := fun F K => if x < 0 ∨ 50 < x then K (-1) F else K (F 60 2 + x) (uf_ F 60 2 (F 60 2 + x))
theorem sim_sc {A B : Nat → Nat → Int32} {T : Int32 → Int32} {u u' : Int} {h : Nat → Nat} {q : Nat} {F A' F' : Nat → Nat → Int32} (hs : sim_ A B T u h q S F) (hA : ∀ n, 2 ≤ n → A' n = S.1 n) (hF : ∀ n, n ≠ 60 → F' n = F n) (hF2 : F' 60 11 = F 60 11) (hn : (S.1 1 0).toInt ≤ (A' 1 0).toInt) (hS : sA_ u' A' F') : sim_ A B (tu_ T (S.1 1 0) 0) u' h q (A', S.2) F' := by
  obtain ⟨⟨h1, h2⟩, h3, h4, h5, h6, h7, h8, h9, h10⟩ := hs
  have hrec : rec_ F' = rec_ F := by unfold rec_; rw [hF2]
  refine ⟨⟨fun n j hn => ?_, fun n j hn => ?_⟩, hS, fun t' ht' => ?_, ok_row h5 (hF _ (by omega)) (hF _ (by omega)), fun i hi => ?_, fun i hi => ?_, fun c' hc' => ?_, ?_, ?_⟩
  · show A' n j = _
    rw [hA n (by omega)]; exact h1 n j hn
  · rw [hF n (by omega)]; exact h2 n j hn
  · exact sB_row (h4 t' ht') (hA _ (by omega)) (fun n a b => by rw [hF n (by omega)])
  · show sl_ _ (A' 1 0) _ _ _ _
    exact sl_row (sl_up (h6 i hi) hn) (fun n _ _ => by rw [hF n (by omega)])
  · obtain ⟨b1, b2, b3, b4, b5⟩ := h7 i hi
    refine ⟨?_, b2, by rw [hrec]; exact b3, vl_row b4 (fun n _ _ => hF n (by omega)) hF2, fun v hv => sg2_up (b5 v hv) hn⟩
    show A' (20 + i) 3 = _
    rw [hA _ (by omega)]; exact b1
  · show sX_ _ (A' 1 0) A' F' c'
    exact sX_row (sX_up (h8 c' hc') hn) (hA _ (by omega)) (hA _ (by omega)) (fun n a b => by rw [hF n (by omega)]) (fun n i a b hi => by rw [hF n (by omega)])
  · rw [hrec, hF2]; exact h9
  · rw [hrec]; exact h10
theorem op_tk {x : Int32} : op_ cdn_ (fun K => tkC_ S x (fun r S1 => K (0, r, S1))) (tkY_ x) S := by
  intro A B T u m q F hu hq hm hF hs
  have hm0 : sim_ A B T (u + 8) (fun _ => m + 1) (q + 2) S F := sim_mono hs (by omega) (fun _ _ => by omega) (by omega)
  obtain ⟨a1, a2, a3, a4, a5, a6, a7, a8⟩ := hm0.2.1
  unfold tkC_
  by_cases h1 : x < 0
  · rw [if_pos h1]
    refine ⟨-1, F, T, fun K' hK' => ?_, Or.inl ⟨rfl, hF, rfl⟩, hm0⟩
    unfold tkY_
    rw [if_pos (Or.inl h1)]; exact hK'
  · rw [if_neg h1]
    by_cases h2 : x ≤ 50
    · rw [if_pos h2]
      refine ⟨F 60 2 + x, uf_ F 60 2 (F 60 2 + x), tu_ T (S.1 1 0) 0, fun K' hK' => ?_, Or.inl ⟨rfl, by rw [uf_o _ _ _ _ _ _ (by omega)]; exact hF, ?_⟩, sim_sc hm0 (fun n hn => uf_row _ _ _ _ _ (by omega)) (fun n hn => uf_row _ _ _ _ _ hn) (uf_o _ _ _ _ _ _ (by omega)) ?_ ⟨?_, ?_, ?_, ?_, ?_, ?_, ?_, ?_⟩⟩
      · unfold tkY_
        rw [if_neg (fun e => e.elim h1 (fun e => mm_nlt h2 e))]; exact hK'
      · show uf_ S.1 0 5 (S.1 0 5 + x) 0 5 = _
        rw [uf_s, a2]
      · rw [uf_o _ _ _ _ _ _ (by omega)]; omega
      · rw [uf_o _ _ _ _ _ _ (by omega), uf_o _ _ _ _ _ _ (by omega)]; exact a1
      · rw [uf_s, uf_s, a2]
      · rw [uf_o _ _ _ _ _ _ (by omega), uf_o _ _ _ _ _ _ (by omega)]; exact a3
      · rw [uf_o _ _ _ _ _ _ (by omega), uf_o _ _ _ _ _ _ (by omega)]; exact a4
      · rw [uf_o _ _ _ _ _ _ (by omega)]; exact a5
      · rw [uf_o _ _ _ _ _ _ (by omega)]; exact a6
      · rw [uf_o _ _ _ _ _ _ (by omega), uf_o _ _ _ _ _ _ (by omega)]; exact a7
      · rw [uf_o _ _ _ _ _ _ (by omega), uf_o _ _ _ _ _ _ (by omega)]; exact a8
    · rw [if_neg h2]
      refine ⟨-1, F, T, fun K' hK' => ?_, Or.inl ⟨rfl, hF, rfl⟩, hm0⟩
      unfold tkY_
      rw [if_pos (Or.inr (mm_lt h2))]; exact hK'
theorem op_fo : op_ cdn_ (fun K => K (0, S.1 1 1 + 1, (uf_ S.1 1 0 (S.1 1 1 + 1), S.2))) (fun F K => K (F 60 4 + 1) (uf_ F 60 3 (F 60 4 + 1))) S := by
  intro A B T u m q F hu hq hm hF hs
  have hm0 : sim_ A B T u (fun _ => m + 1) (q + 2) S F := sim_mono hs (by omega) (fun _ _ => by omega) (by omega)
  obtain ⟨a1, a2, a3, a4, a5, a6, a7, a8⟩ := hm0.2.1
  have e1 : (S.1 1 1 + 1).toInt = (S.1 1 1).toInt + 1 := i_add1 (by omega)
  refine ⟨F 60 4 + 1, uf_ F 60 3 (F 60 4 + 1), tu_ T (S.1 1 0) 0, fun K' hK' => hK', Or.inl ⟨rfl, by rw [uf_o _ _ _ _ _ _ (by omega)]; exact hF, by rw [a4]⟩, sim_sc hm0 (fun n hn => uf_row _ _ _ _ _ (by omega)) (fun n hn => uf_row _ _ _ _ _ hn) (uf_o _ _ _ _ _ _ (by omega)) ?_ ⟨?_, ?_, ?_, ?_, ?_, ?_, ?_, ?_⟩⟩
  · rw [uf_s, e1]; omega
  · rw [uf_o _ _ _ _ _ _ (by omega), uf_o _ _ _ _ _ _ (by omega)]; exact a1
  · rw [uf_o _ _ _ _ _ _ (by omega), uf_o _ _ _ _ _ _ (by omega)]; exact a2
  · rw [uf_s, uf_s, a4]
  · rw [uf_o _ _ _ _ _ _ (by omega), uf_o _ _ _ _ _ _ (by omega)]; exact a4
  · rw [uf_s, e1]; omega
  · rw [uf_s, e1]; omega
  · rw [uf_s, e1, uf_o _ _ _ _ _ _ (by omega)]; omega
  · rw [uf_s, e1, uf_o _ _ _ _ _ _ (by omega)]; omega
end OPS
