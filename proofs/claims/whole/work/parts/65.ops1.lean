def inv_ (n : Nat) (S : ss_) : Prop := ∃ T, sim_ S.1 S.1 T (1 + 8 * n) (fun _ => n) (2 * n) S S.1
theorem sim_swap {A B : Nat → Nat → Int32} {T : Int32 → Int32} {u : Int} {h : Nat → Nat} {q : Nat} {S : ss_} {F : Nat → Nat → Int32} (hs : sim_ A B T u h q S F) (hB : ∀ n j, n < 60 → B n j = S.1 n j) : sim_ F F T u h q (F, S.2) F := by
  obtain ⟨⟨h1, h2⟩, h3, h4, h5, h6, h7, h8, h9, h10⟩ := hs
  have er : ∀ n, n < 60 → F n = S.1 n := fun n hn => funext fun j => (h2 n j (Or.inl hn)).trans (hB n j hn)
  refine ⟨⟨fun _ _ _ => rfl, fun _ _ _ => rfl⟩, sA_row h3 (er 0 (by omega)) (er 1 (by omega)) (fun _ _ _ => rfl), fun t ht => sB_row (h4 t ht) (er _ (by omega)) (fun _ _ _ => rfl), h5, fun i hi => ?_, fun i hi => sV_row (h7 i hi) (er 1 (by omega)) (er _ (by omega)) (fun _ _ _ => rfl) rfl, fun c hc => ?_, h9, h10⟩
  · show sl_ T (F 1 0) _ _ _ _
    rw [er 1 (by omega)]; exact h6 i hi
  · show sX_ T (F 1 0) F F c
    rw [er 1 (by omega)]
    exact sX_row (h8 c hc) (er _ (by omega)) (er _ (by omega)) (fun _ _ _ => rfl) (fun _ _ _ _ _ => rfl)
theorem sim_base {A B B' : Nat → Nat → Int32} {T : Int32 → Int32} {u : Int} {h : Nat → Nat} {q : Nat} {S : ss_} {F F' : Nat → Nat → Int32} (hs : sim_ A B T u h q S F) (hF : ∀ n j, 60 ≤ n → n ≤ 90 → ¬ (n = 60 ∧ j = 1) → F' n j = F n j) (hB : ∀ n j, n < 60 ∨ 90 < n → F' n j = B' n j) : sim_ A B' T u h q S F' := by
  obtain ⟨⟨h1, h2⟩, h3, h4, h5, h6, h7, h8, h9, h10⟩ := hs
  have er : ∀ n, 61 ≤ n → n ≤ 90 → F' n = F n := fun n hn hn2 => funext fun j => hF n j (by omega) (by omega) (by omega)
  have e60 : ∀ j, j ≠ 1 → F' 60 j = F 60 j := fun j hj => hF 60 j (by omega) (by omega) (by omega)
  have hrec : rec_ F' = rec_ F := by unfold rec_; rw [e60 11 (by omega)]
  refine ⟨⟨h1, hB⟩, sA_row h3 rfl rfl (fun j _ hj => e60 j hj), fun t ht => sB_row (h4 t ht) rfl (fun n _ _ => by rw [er n (by omega) (by omega)]), ok_row h5 (er _ (by omega) (by omega)) (er _ (by omega) (by omega)), fun i hi => sl_row (h6 i hi) (fun n _ _ => by rw [er n (by omega) (by omega)]), fun i hi => sV_row (h7 i hi) rfl rfl (fun n _ _ => er n (by omega) (by omega)) (e60 11 (by omega)), fun c hc => sX_row (h8 c hc) rfl rfl (fun n _ _ => by rw [er n (by omega) (by omega)]) (fun n i _ _ _ => by rw [er n (by omega) (by omega)]), ?_, ?_⟩
  · rw [hrec, e60 11 (by omega)]; exact h9
  · rw [hrec]; exact h10
def cdn_ (e : Nat) : Int32 := nI e
def cds_ (e : Nat) : Int32 := if e = 2 then 3 else if e = 3 then 2 else nI e
def mt_ (cd : Nat → Int32) (e : Nat) (r r' w : Int32) : Prop := (e = 0 ∧ w = 0 ∧ r = r') ∨ (¬ e = 0 ∧ e ≤ 4 ∧ w = cd e)
abbrev mw_ : Type := (Nat → Nat → Int32) → (Int32 → (Nat → Nat → Int32) → Prop) → Prop
def op_ (cd : Nat → Int32) (W : (er_ → Prop) → Prop) (Y : mw_) (S : ss_) : Prop :=
  ∀ (A B : Nat → Nat → Int32) (T : Int32 → Int32) (u : Int) (m : Nat) (q : Nat) (F : Nat → Nat → Int32), u < 1000000 → q < 4000 → m < 600 → F 60 1 = 0 → sim_ A B T u (fun _ => m) q S F → W (fun x => ∃ r' F1 T1, (∀ K', K' r' F1 → Y F K') ∧ mt_ cd x.1 x.2.1 r' (F1 60 1) ∧ sim_ A B T1 (u + 8) (fun _ => m + 1) (q + 2) x.2.2 F1)
theorem top_ {cd : Nat → Int32} {W : (er_ → Prop) → Prop} {Y : mw_} {S : ss_} {n : Nat} (hd : dt_ W) (ho : op_ cd W Y S) (hn : n < 520) (hi : inv_ n S) : W (fun x => (∀ n j, 60 ≤ n → x.2.2.1 n j = S.1 n j) ∧ ∀ Fb : Nat → Nat → Int32, (∀ n j, n < 91 → Fb n j = x.2.2.1 n j) → ∃ r' F1, (∀ K', K' r' F1 → Y (uf_ Fb 60 1 0) K') ∧ mt_ cd x.1 x.2.1 r' (F1 60 1) ∧ (∀ n j, 90 < n → F1 n j = Fb n j) ∧ inv_ (n + 1) (F1, x.2.2.2) ∧ ∃ T, sim_ S.1 Fb T (1 + 8 * n) (fun _ => n) (2 * n) S (uf_ Fb 60 1 0)) := by
  obtain ⟨T, hs⟩ := hi
  rcases hd with ⟨x, hx⟩ | hx
  · refine (hx _).mpr ?_
    have h1 := (hx _).mp (ho S.1 S.1 T (1 + 8 * n) n (2 * n) (uf_ S.1 60 1 0) (by omega) (by omega) (by omega) (uf_s _ _ _ _) (sim_err hs))
    obtain ⟨_, _, _, _, _, hs1⟩ := h1
    have hag : ∀ n j, 60 ≤ n → x.2.2.1 n j = S.1 n j := hs1.1.1
    refine ⟨hag, fun Fb hFb => ?_⟩
    have hs2 : sim_ S.1 Fb T (1 + 8 * n) (fun _ => n) (2 * n) S (uf_ Fb 60 1 0) := sim_base hs (fun n' j a b b2 => by rw [uf_o _ _ _ _ _ _ (by omega), hFb n' j (by omega)]; exact hag n' j a) (fun n' j a => by rw [uf_o _ _ _ _ _ _ (by omega)])
    obtain ⟨r', F1, T1, k1, k2, k3⟩ := (hx _).mp (ho S.1 Fb T (1 + 8 * n) n (2 * n) (uf_ Fb 60 1 0) (by omega) (by omega) (by omega) (uf_s _ _ _ _) hs2)
    refine ⟨r', F1, k1, k2, fun n' j hn' => k3.1.2 n' j (Or.inr hn'), ⟨T1, ?_⟩, T, hs2⟩
    exact sim_mono (sim_swap k3 (fun n' j hn' => hFb n' j (by omega))) (by omega) (fun _ _ => Nat.le_refl _) (by omega)
  · exact hx _
theorem inv_err {n : Nat} {S : ss_} {x : Int32} (hi : inv_ n S) : inv_ (n + 1) (uf_ (uf_ S.1 60 1 0) 60 1 x, S.2) := by
  obtain ⟨T, hs⟩ := hi
  refine ⟨T, ?_⟩
  have h1 : sim_ S.1 S.1 T (1 + 8 * n) (fun _ => n) (2 * n) S (uf_ (uf_ S.1 60 1 0) 60 1 x) := sim_err (sim_err hs)
  exact sim_mono (sim_swap h1 (fun _ _ _ => rfl)) (by omega) (fun _ _ => by omega) (by omega)
theorem inv_0 {n : Nat} {S : ss_} (hi : inv_ n S) : inv_ (n + 1) (uf_ S.1 60 1 0, S.2) := by
  obtain ⟨T, hs⟩ := hi
  refine ⟨T, ?_⟩
  have h1 : sim_ S.1 S.1 T (1 + 8 * n) (fun _ => n) (2 * n) S (uf_ S.1 60 1 0) := sim_err hs
  exact sim_mono (sim_swap h1 (fun _ _ _ => rfl)) (by omega) (fun _ _ => by omega) (by omega)
theorem mt_er {cd : Nat → Int32} {r r' w : Int32} (e : Nat) (h0 : ¬ e = 0) (h4 : e ≤ 4) (hw : w = cd e) : mt_ cd e r r' w := Or.inr ⟨h0, h4, hw⟩
section OPS
variable {S : ss_}
def stY_ (c : Nat) : mw_ := fun F K => if F 83 c = 0 then K 0 (uf_ F 60 1 2) else sq_ (uf_ F 83 c 2) c K
theorem op_st {c : Nat} (hc : c < 4) : op_ cds_ (fun K => stC_ S c (fun e r S1 => K (e, r, S1))) (stY_ c) S := by
  intro A B T u m q F hu hq hm hF hs
  unfold stC_
  rcases (hs.2.2.2.2.2.2.1 c hc).2 with ⟨e1, e2, _⟩ | hX
  · rw [if_pos e1]
    refine ⟨0, uf_ F 60 1 2, T, fun K' hK' => ?_, Or.inr ⟨by omega, by omega, by rw [uf_s]; rfl⟩, sim_mono (sim_err hs) (by omega) (fun _ _ => by omega) (by omega)⟩
    unfold stY_
    rw [if_pos e2]; exact hK'
  · have h2 : ¬ S.1 (40 + c) 2 = 0 := by rw [hX.1]; decide
    rw [if_neg h2]
    have h83 : ¬ F 83 c = 0 := by
      rcases hX.2.1 with ⟨_, e⟩ | ⟨_, e⟩ <;> rw [e] <;> decide
    have hs1 := sim_st hs hc h2
    refine av_sim hs1 hu hc hq (by show ¬ uf_ S.1 (40 + c) 3 1 (40 + c) 2 = 0; rw [uf_o _ _ _ _ _ _ (by omega)]; exact h2) (uf_s _ _ _ _) (fun r S1 r' F1 T1 a b d => ?_)
    have hF' : uf_ F 83 c 2 60 1 = 0 := by rw [uf_o _ _ _ _ _ _ (by omega)]; exact hF
    have hd := sim_mono d (show u + 1 ≤ u + 8 by omega) (h' := fun _ => m + 1) (fun _ _ => Nat.le_refl _) (Nat.le_refl _)
    have ev : ∀ K', K' r' F1 → stY_ c F K' := fun K' hK' => by
      unfold stY_
      rw [if_neg h83]
      generalize sq_ (uf_ F 83 c 2) c = W at a ⊢
      exact a K' hK'
    by_cases hr : r = -2
    · rw [if_pos hr]
      refine ⟨r', F1, T1, ev, mt_er 2 (by decide) (by decide) ?_, hd⟩
      rcases b with ⟨_, _, e⟩ | ⟨e, _⟩
      · rw [e]; rfl
      · exact absurd hr e
    · rw [if_neg hr]
      refine ⟨r', F1, T1, ev, Or.inl ⟨rfl, ?_, ?_⟩, hd⟩
      · rcases b with ⟨e, _⟩ | ⟨_, _, e⟩
        · exact absurd e hr
        · rw [e]; exact hF'
      · rcases b with ⟨e, _⟩ | ⟨_, e, _⟩
        · exact absurd e hr
        · exact e
theorem op_ce {i : Nat} (hi : i < 12) : op_ cdn_ (fun K => ceC_ S i (fun e r S1 => K (e, r, S1))) (fun F K => ce_ F i K) S := by
  intro A B T u m q F hu hq hm hF hs
  have hup := up_iff (t := i / 4) hs (by omega)
  have hm0 : sim_ A B T (u + 8) (fun _ => m + 1) (q + 2) S F := sim_mono hs (by omega) (fun _ _ => by omega) (by omega)
  unfold ceC_
  by_cases h77 : S.1 (10 + i / 4) 0 = 0
  · rw [if_pos h77]
    refine ⟨0, uf_ F 60 1 2, T, fun K' hK' => ?_, Or.inr ⟨by omega, by omega, by rw [uf_s]; rfl⟩, sim_err hm0⟩
    show ce_ F i K'
    unfold ce_
    rw [if_neg (hup.mp h77)]; exact hK'
  · rw [if_neg h77]
    have h77' : F 77 (i / 4) = 0 := Classical.byContradiction fun e => h77 (hup.mpr e)
    cases hL : S.2.1 i with
    | none =>
      have h65 : F 65 i = 0 := by have := hs.2.2.2.2.1 i hi; rw [hL] at this; exact this
      refine cu_none hL ?_
      show ite ((0 : Int32) = -2) _ _
      rw [if_neg (by decide)]
      refine ⟨0, F, T, fun K' hK' => ?_, Or.inl ⟨rfl, hF, rfl⟩, hm0⟩
      show ce_ F i K'
      unfold ce_
      rw [if_pos h77', if_pos h65]; exact hK'
    | some f =>
      have h65 : ¬ F 65 i = 0 := by
        have := (sim_sl hs hi hL).2.2.2.2.2.2.2.1
        intro e; rw [e, i_0] at this; omega
      refine cu_sim hs hi hq hL (fun r S1 r' F1 ev hr hs1 hkp => ?_)
      have hd := sim_mono hs1 (show u ≤ u + 8 by omega) (h' := fun _ => m + 1) (fun _ _ => Nat.le_refl _) (Nat.le_refl _)
      have hstep : ∀ K' : Int32 → (Nat → Nat → Int32) → Prop, (if r' = 1 then K' 0 (uf_ F1 60 1 2) else if r' = 0 then K' 0 (uf_ F1 60 1 2) else if r' = 2 then K' 1 F1 else K' 2 F1) → ce_ F i K' := fun K' hh => by
        unfold ce_
        rw [if_pos h77', if_neg h65]
        exact ev _ hh
      rcases hr with ⟨e1, e2⟩ | ⟨e1, e2⟩ | ⟨e1, e2⟩
      · rw [if_pos e1]
        refine ⟨0, uf_ F1 60 1 2, T, fun K' hK' => hstep K' ?_, mt_er 2 (by decide) (by decide) (by rw [uf_s]; rfl), sim_err hd⟩
        rcases e2 with e2 | e2
        · rw [e2, if_neg (by decide), if_pos rfl]; exact hK'
        · rw [e2, if_pos rfl]; exact hK'
      · rw [e1, if_neg (by decide)]
        refine ⟨1, F1, T, fun K' hK' => hstep K' ?_, Or.inl ⟨rfl, hkp.2.2.trans hF, rfl⟩, hd⟩
        rw [e2, if_neg (by decide), if_neg (by decide), if_pos rfl]; exact hK'
      · rw [e1, if_neg (by decide)]
        refine ⟨2, F1, T, fun K' hK' => hstep K' ?_, Or.inl ⟨rfl, hkp.2.2.trans hF, rfl⟩, hd⟩
        rw [e2, if_neg (by decide), if_neg (by decide), if_neg (by decide)]; exact hK'
theorem gl_sim {A B : Nat → Nat → Int32} {T : Int32 → Int32} {u : Int} {m q : Nat} {F : Nat → Nat → Int32} {c i : Nat} {K : Nat → Int32 → ss_ → Prop} (hs : sim_ A B T u (fun _ => m) q S F) (hF : F 60 1 = 0) (hi : i < 12) (y1 : F 84 c = S.1 (40 + c) 4)
    (hK : ∀ e r r' F1, (∀ K', K' r' F1 → gl_ F c i K') → mt_ cdn_ e r r' (F1 60 1) → sim_ A B T u (fun _ => m) q S F1 → K e r S) : gtf_ S c i K := by
  have hvl := sim_vl hs hi
  have hrl := rec_lt F
  unfold gtf_
  cases hv : lwb_ (S.1 (40 + c) 4) (S.2.2 i) with
  | none =>
    have hla := la_none hvl hv
    refine hK 3 0 0 (uf_ F 60 1 3) (fun K' hK' => ?_) (Or.inr ⟨by omega, by omega, by rw [uf_s]; rfl⟩) (sim_err hs)
    unfold gl_
    rw [y1, hla, if_pos (by decide)]; exact hK'
  | some v =>
    obtain ⟨k, k1, k2, k3⟩ := la_some hvl hv
    obtain ⟨a1, a2, a3, a4⟩ := lwb_some hvl.1 hv
    have hkk : (la_ F (nI i) (S.1 (40 + c) 4)).toNatClampNeg = k := by rw [k2, nI_clamp (by omega)]
    simp only [gtv_]
    have e2 : vv_g v 2 = F 75 k := by rw [k3]; rfl
    have e3 : vv_g v 3 = F 76 k := by rw [k3]; rfl
    rw [e2, e3]
    by_cases h75 : F 75 k = 2
    · rw [if_pos h75]
      refine hK 3 0 0 (uf_ F 60 1 3) (fun K' hK' => ?_) (Or.inr ⟨by omega, by omega, by rw [uf_s]; rfl⟩) (sim_err hs)
      unfold gl_
      rw [y1, if_neg (by rw [k2]; exact nI_pos (by omega)), hkk, if_pos h75]; exact hK'
    · rw [if_neg h75]
      refine hK 0 _ (F 76 k) F (fun K' hK' => ?_) (Or.inl ⟨rfl, hF, rfl⟩) hs
      unfold gl_
      rw [y1, if_neg (by rw [k2]; exact nI_pos (by omega)), hkk, if_neg h75]; exact hK'
set_option maxHeartbeats 1000000 in
theorem op_gt {c i : Nat} (hc : c < 4) (hi : i < 12) : op_ cdn_ (fun K => gtC_ S c i (fun e r S1 => K (e, r, S1))) (fun F K => ge_ F c i K) S := by
  intro A B T u m q F hu hq hm hF hs
  have hm0 : sim_ A B T (u + 8) (fun _ => m + 1) (q + 2) S F := sim_mono hs (by omega) (fun _ _ => by omega) (by omega)
  have hbad : ¬ F 83 c = 1 → ∀ K' : Int32 → (Nat → Nat → Int32) → Prop, K' 0 (uf_ F 60 1 2) → ge_ F c i K' := fun h83 K' hK' => by
    unfold ge_; rw [if_neg h83]; exact hK'
  unfold gtC_
  rcases (hs.2.2.2.2.2.2.1 c hc).2 with ⟨e1, e2, _⟩ | hX
  · rw [if_pos e1]
    exact ⟨0, uf_ F 60 1 2, T, hbad (by rw [e2]; decide), Or.inr ⟨by omega, by omega, by rw [uf_s]; rfl⟩, sim_err hm0⟩
  · have h2 : ¬ S.1 (40 + c) 2 = 0 := by rw [hX.1]; decide
    rw [if_neg h2]
    rcases hX.2.1 with ⟨h3, h83⟩ | ⟨h3, h83⟩
    · rw [if_pos h3]
      obtain ⟨x1, x2, ⟨y1, y2, y3⟩, ⟨z1, z2, z3, z4, z5, z6, z7⟩, ⟨v0, v1⟩, ⟨w0, w1, w2, w3, w4⟩⟩ := hX
      unfold gt1_
      rw [bs_bt z4 hi, bs_bt z5 hi]
      by_cases hw : F 87 (12 * c + i) = 0
      · have hwb : wb_ F c i = false := by unfold wb_; simp [hw]
        rw [hwb, if_neg (by decide)]
        have h87 : F 87 (12 * c + i) ≤ 0 := by rw [hw]; decide
        have hup := up_iff (t := i / 4) hs (by omega)
        by_cases h77 : S.1 (10 + i / 4) 0 = 0
        · rw [if_pos h77]
          refine ⟨0, uf_ F 60 1 2, T, fun K' hK' => ?_, Or.inr ⟨by omega, by omega, by rw [uf_s]; rfl⟩, sim_err hm0⟩
          show ge_ F c i K'
          unfold ge_
          rw [if_pos h83, if_pos h87, if_neg (hup.mp h77)]; exact hK'
        · rw [if_neg h77]
          have h77' : F 77 (i / 4) = 0 := Classical.byContradiction fun e => h77 (hup.mpr e)
          have e78 := (hs.2.2.1 (i / 4) (by omega)).2.1
          by_cases hwm : S.1 (10 + i / 4) 1 ≤ S.1 (40 + c) 4
          · rw [if_pos hwm]
            have hwm' : F 78 (i / 4) ≤ F 84 c := by rw [e78, y1]; exact hwm
            have hgl : (∀ K' : Int32 → (Nat → Nat → Int32) → Prop, gl_ F c i K' → ge_ F c i K') → gtf_ S c i (fun e r S1 => ∃ r' F1 T1, (∀ K', K' r' F1 → ge_ F c i K') ∧ mt_ cdn_ e r r' (F1 60 1) ∧ sim_ A B T1 (u + 8) (fun _ => m + 1) (q + 2) S1 F1) := fun hh =>
              gl_sim hm0 hF hi y1 (fun e r r' F1 a b d => ⟨r', F1, T, fun K' hK' => hh K' (a K' hK'), b, d⟩)
            cases hL : S.2.1 i with
            | none =>
              have h65 : F 65 i = 0 := by have := hs.2.2.2.2.1 i hi; rw [hL] at this; exact this
              show ite ((0 : Int32) = 0) _ _
              rw [if_pos rfl]
              refine hgl (fun K' hK' => ?_)
              unfold ge_
              rw [if_pos h83, if_pos h87, if_pos h77', if_pos hwm', if_pos (by rw [h65]; decide)]
              exact hK'
            | some f =>
              obtain ⟨l0, l1, l2, l3, l4, l5, l6, l7, l8, l9⟩ := sim_sl hs hi hL
              have h65 : ¬ F 65 i ≤ 0 := by rw [Int32.le_iff_toInt_le, i_0]; omega
              have hlt : lt_ (some f) (S.1 (40 + c) 4) = if S.1 (40 + c) 4 ≤ f 0 then 0 else 1 := rfl
              rw [hlt, l0]
              by_cases hle : S.1 (40 + c) 4 ≤ F 65 i
              · rw [if_pos hle, if_pos rfl]
                refine hgl (fun K' hK' => ?_)
                unfold ge_
                rw [if_pos h83, if_pos h87, if_pos h77', if_pos hwm', if_neg h65, if_pos (by rw [y1]; exact hle)]
                exact hK'
              · rw [if_neg hle, if_neg (by decide)]
                refine cu_sim hs hi hq hL (fun r S1 r' F1 ev hr hs1 hkp => ?_)
                have hd := sim_mono hs1 (show u ≤ u + 8 by omega) (h' := fun _ => m + 1) (fun _ _ => Nat.le_refl _) (Nat.le_refl _)
                have hstep : ∀ K' : Int32 → (Nat → Nat → Int32) → Prop, (if r' = 1 then K' 0 (uf_ F1 60 1 2) else if r' = 0 then K' 0 (uf_ F1 60 1 2) else gl_ F1 c i K') → ge_ F c i K' := fun K' hh => by
                  unfold ge_
                  rw [if_pos h83, if_pos h87, if_pos h77', if_pos hwm', if_neg h65, if_neg (by rw [y1]; exact hle)]
                  exact ev _ hh
                have hgl2 : ¬ r' = 1 → ¬ r' = 0 → gtf_ S1 c i (fun e r S1 => ∃ r' F1 T1, (∀ K', K' r' F1 → ge_ F c i K') ∧ mt_ cdn_ e r r' (F1 60 1) ∧ sim_ A B T1 (u + 8) (fun _ => m + 1) (q + 2) S1 F1) := fun n1 n0 =>
                  gl_sim hd (hkp.2.2.trans hF) hi (by rw [hkp.2.1 84 (by omega), hkp.1 (40 + c) (by omega)]; exact y1) (fun e r r2 F2 a b d => ⟨r2, F2, T, fun K' hK' => hstep K' (by rw [if_neg n1, if_neg n0]; exact a K' hK'), b, d⟩)
                rcases hr with ⟨e1, e2⟩ | ⟨e1, e2⟩ | ⟨e1, e2⟩
                · rw [if_pos e1]
                  refine ⟨0, uf_ F1 60 1 2, T, fun K' hK' => hstep K' ?_, mt_er 2 (by decide) (by decide) (by rw [uf_s]; rfl), sim_err hd⟩
                  rcases e2 with e2 | e2
                  · rw [e2, if_neg (by decide), if_pos rfl]; exact hK'
                  · rw [e2, if_pos rfl]; exact hK'
                · rw [e1, if_neg (by decide)]
                  exact hgl2 (by rw [e2]; decide) (by rw [e2]; decide)
                · rw [e1, if_neg (by decide)]
                  exact hgl2 (by rw [e2]; decide) (by rw [e2]; decide)
          · rw [if_neg hwm]
            refine ⟨0, uf_ F 60 1 4, T, fun K' hK' => ?_, Or.inr ⟨by omega, by omega, by rw [uf_s]; rfl⟩, sim_err hm0⟩
            show ge_ F c i K'
            unfold ge_
            rw [if_pos h83, if_pos h87, if_pos h77', if_neg (by rw [e78, y1]; exact hwm)]; exact hK'
      · have hwb : wb_ F c i = true := by unfold wb_; simp [hw]
        rw [hwb, if_pos (by decide)]
        have h87 : ¬ F 87 (12 * c + i) ≤ 0 := (pos_iff (z1 i hi)).mpr hw
        by_cases hv : F 87 (12 * c + i) = 2
        · have hwv : wv_ F c i = true := by unfold wv_; simp [hv]
          rw [hwv, if_pos (by decide)]
          refine ⟨0, uf_ F 60 1 3, T, fun K' hK' => ?_, Or.inr ⟨by omega, by omega, by rw [uf_s]; rfl⟩, sim_err hm0⟩
          show ge_ F c i K'
          unfold ge_
          rw [if_pos h83, if_neg h87, if_neg (by rw [hv]; decide)]; exact hK'
        · have hwv : wv_ F c i = false := by unfold wv_; simp [hv]
          rw [hwv, if_neg (by decide)]
          have h1 : F 87 (12 * c + i) = 1 := by
            rcases z1 i hi with e | e | e
            · exact absurd e hw
            · exact e
            · exact absurd e hv
          refine ⟨F 88 (12 * c + i), F, T, fun K' hK' => ?_, Or.inl ⟨rfl, hF, (z2 i hi hw).symm⟩, hm0⟩
          show ge_ F c i K'
          unfold ge_
          rw [if_pos h83, if_neg h87, if_pos h1]; exact hK'
    · rw [if_neg (by rw [h3]; decide)]
      exact ⟨0, uf_ F 60 1 2, T, hbad (by rw [h83]; decide), Or.inr ⟨by omega, by omega, by rw [uf_s]; rfl⟩, sim_err hm0⟩
end OPS
