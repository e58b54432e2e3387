section SM
variable {A B : Nat → Nat → Int32} {T : Int32 → Int32} {u : Int} {h : Nat → Nat} {q : Nat} {S : ss_} {F : Nat → Nat → Int32}
theorem sim_log {t : Nat} (hs : sim_ A B T u h q S F) (ht : t < 3) : sim_ A B T u h q (plF_ S.1 t, S.2) (en_F F t) := by
  obtain ⟨⟨h1, h2⟩, h3, h4, h5, h6, h7, h8, h9, h10⟩ := hs
  have e1 : plF_ S.1 t 1 = S.1 1 := pl_row _ _ _ (by omega)
  have hrec : rec_ (en_F F t) = rec_ F := by unfold rec_; rw [en_row _ _ _ (by omega)]
  refine ⟨⟨fun n j hn => ?_, fun n j hn => ?_⟩, sA_row h3 (pl_row _ _ _ (by omega)) e1 (fun j _ _ => by rw [en_row _ _ _ (by omega)]), fun t' ht' => ?_, ok_row h5 (en_row _ _ _ (by omega)) (en_row _ _ _ (by omega)), fun i hi => ?_, fun i hi => ?_, fun c hc => ?_, ?_, ?_⟩
  · show plF_ S.1 t n j = _
    rw [pl_row _ _ _ (by omega)]; exact h1 n j hn
  · rw [en_row _ _ _ (by omega)]; exact h2 n j hn
  · show sB_ (plF_ S.1 t) _ _
    by_cases e : t' = t
    · subst e; exact sB_log (h4 t' ht')
    · exact sB_row (h4 t' ht') (pl_row _ _ _ (by omega)) (fun n _ _ => en_at _ _ _ _ e)
  · show sl_ T (plF_ S.1 t 1 0) _ _ _ _
    rw [e1]
    exact sl_row (h6 i hi) (fun n a b => by rw [en_row _ _ _ (by omega)])
  · exact sV_row (h7 i hi) e1 (pl_row _ _ _ (by omega)) (fun n a b => by rw [en_row _ _ _ (by omega)]) (by rw [en_row _ _ _ (by omega)])
  · show sX_ T (plF_ S.1 t 1 0) _ _ _
    rw [e1]
    exact sX_row (h8 c hc) (pl_row _ _ _ (by omega)) (pl_row _ _ _ (by omega)) (fun n a b => by rw [en_row _ _ _ (by omega)]) (fun n i a b _ => by rw [en_row _ _ _ (by omega)])
  · rw [hrec, en_row _ _ _ (by omega)]; exact h9
  · rw [hrec]; exact h10
theorem sim_mono {u' : Int} {h' : Nat → Nat} {q' : Nat} (hs : sim_ A B T u h q S F) (hu : u ≤ u') (hh : ∀ i, i < 12 → h i ≤ h' i) (hq : q ≤ q') : sim_ A B T u' h' q' S F := by
  obtain ⟨h1, ⟨a1, a2, a3, a4, a5, a6, a7⟩, h4, h5, h6, h7, h8, h9, h10⟩ := hs
  refine ⟨h1, ⟨a1, a2, a3, a4, a5, by omega, a7⟩, h4, h5, h6, fun i hi => ?_, h8, h9, by omega⟩
  obtain ⟨b1, b2, b3⟩ := h7 i hi
  exact ⟨b1, by have := hh i hi; omega, b3⟩
theorem ins_mem (v w : vv_) : ∀ V, w ∈ ins_ v V ↔ w = v ∨ w ∈ V := by
  intro V
  induction V with
  | nil => simp [ins_]
  | cons a V ih =>
    unfold ins_
    split
    · rw [List.mem_cons]
    · rw [List.mem_cons, ih, List.mem_cons]
      constructor
      · rintro (h | h | h)
        · exact Or.inr (Or.inl h)
        · exact Or.inl h
        · exact Or.inr (Or.inr h)
      · rintro (h | h | h)
        · exact Or.inr (Or.inl h)
        · exact Or.inl h
        · exact Or.inr (Or.inr h)
theorem ins_len (v : vv_) : ∀ V, (ins_ v V).length = V.length + 1 := by
  intro V
  induction V with
  | nil => rfl
  | cons a V ih =>
    unfold ins_
    split
    · rfl
    · rw [List.length_cons, ih, List.length_cons]
theorem ins_pw {v : vv_} : ∀ {V : List vv_}, V.Pairwise vr_ → (∀ w ∈ V, ¬ w.1 = v.1 ∧ ¬ w.2.1 = v.2.1) → (ins_ v V).Pairwise vr_ := by
  intro V
  induction V with
  | nil => intro _ _; exact List.pairwise_singleton _ _
  | cons a V ih =>
    intro hp hw
    have hp' := List.pairwise_cons.mp hp
    have ha := hw a List.mem_cons_self
    have hne : a.1.toInt ≠ v.1.toInt := fun e => ha.1 (i_eq e)
    unfold ins_
    split
    · rename_i hle
      rw [Int32.le_iff_toInt_le] at hle
      refine List.pairwise_cons.mpr ⟨fun w hw' => ?_, hp⟩
      rcases List.mem_cons.mp hw' with rfl | hw''
      · exact ⟨by omega, fun e => ha.2 e.symm⟩
      · have := (hp'.1 w hw'').1
        exact ⟨by omega, fun e => (hw w (List.mem_cons_of_mem _ hw'')).2 e.symm⟩
    · rename_i hle
      rw [Int32.le_iff_toInt_le] at hle
      refine List.pairwise_cons.mpr ⟨fun w hw' => ?_, ih hp'.2 (fun w hw' => hw w (List.mem_cons_of_mem _ hw'))⟩
      rcases (ins_mem v w V).mp hw' with rfl | hw''
      · exact ⟨by omega, ha.2⟩
      · exact hp'.1 w hw''
def rcF_ (F : Nat → Nat → Int32) (i : Nat) (v : vv_) : Nat → Nat → Int32 := uf_ (pu_F F (rec_ F) (nI i) v.1 v.2.1 v.2.2.1 v.2.2.2) 65 i 0
theorem rcF_row {i : Nat} {v : vv_} {n : Nat} (hn : n ≠ 65 ∧ n ≠ 72 ∧ n ≠ 73 ∧ n ≠ 74 ∧ n ≠ 75 ∧ n ≠ 76 ∧ n ≠ 60) : rcF_ F i v n = F n := by
  unfold rcF_ pu_F
  rw [uf_row _ _ _ _ _ (by omega), uf_row _ _ _ _ _ (by omega), uf_row _ _ _ _ _ (by omega), uf_row _ _ _ _ _ (by omega), uf_row _ _ _ _ _ (by omega), uf_row _ _ _ _ _ (by omega), uf_row _ _ _ _ _ (by omega)]
theorem rcF_o {i : Nat} {v : vv_} {n j : Nat} (h65 : n = 65 → j ≠ i) (h7 : 72 ≤ n → n ≤ 76 → j ≠ rec_ F) (h60 : n = 60 → j ≠ 11) : rcF_ F i v n j = F n j := by
  unfold rcF_ pu_F
  rw [uf_o _ _ _ _ _ _ (by omega), uf_o _ _ _ _ _ _ (by omega), uf_o _ _ _ _ _ _ (by omega), uf_o _ _ _ _ _ _ (by omega), uf_o _ _ _ _ _ _ (by omega), uf_o _ _ _ _ _ _ (by omega), uf_o _ _ _ _ _ _ (by omega)]
theorem rcF_65 {i : Nat} {v : vv_} : rcF_ F i v 65 i = 0 := by unfold rcF_; rw [uf_s]
theorem rcF_72 {i : Nat} {v : vv_} : rcF_ F i v 72 (rec_ F) = nI i := by
  unfold rcF_ pu_F
  rw [uf_o _ _ _ _ _ _ (by omega), uf_o _ _ _ _ _ _ (by omega), uf_o _ _ _ _ _ _ (by omega), uf_o _ _ _ _ _ _ (by omega), uf_o _ _ _ _ _ _ (by omega), uf_o _ _ _ _ _ _ (by omega), uf_s]
theorem rcF_tp {i : Nat} {v : vv_} : (rcF_ F i v 73 (rec_ F), rcF_ F i v 74 (rec_ F), rcF_ F i v 75 (rec_ F), rcF_ F i v 76 (rec_ F)) = v := by
  have e1 : rcF_ F i v 73 (rec_ F) = v.1 := by
    unfold rcF_ pu_F
    rw [uf_o _ _ _ _ _ _ (by omega), uf_o _ _ _ _ _ _ (by omega), uf_o _ _ _ _ _ _ (by omega), uf_o _ _ _ _ _ _ (by omega), uf_o _ _ _ _ _ _ (by omega), uf_s]
  have e2 : rcF_ F i v 74 (rec_ F) = v.2.1 := by
    unfold rcF_ pu_F
    rw [uf_o _ _ _ _ _ _ (by omega), uf_o _ _ _ _ _ _ (by omega), uf_o _ _ _ _ _ _ (by omega), uf_o _ _ _ _ _ _ (by omega), uf_s]
  have e3 : rcF_ F i v 75 (rec_ F) = v.2.2.1 := by
    unfold rcF_ pu_F
    rw [uf_o _ _ _ _ _ _ (by omega), uf_o _ _ _ _ _ _ (by omega), uf_o _ _ _ _ _ _ (by omega), uf_s]
  have e4 : rcF_ F i v 76 (rec_ F) = v.2.2.2 := by
    unfold rcF_ pu_F
    rw [uf_o _ _ _ _ _ _ (by omega), uf_o _ _ _ _ _ _ (by omega), uf_s]
  rw [e1, e2, e3, e4]
theorem rcF_rec {i : Nat} {v : vv_} (h9 : F 60 11 = nI (rec_ F)) (hq : rec_ F < 5000) : rcF_ F i v 60 11 = nI (rec_ F + 1) ∧ rec_ (rcF_ F i v) = rec_ F + 1 := by
  have e : rcF_ F i v 60 11 = nI (rec_ F + 1) := by
    unfold rcF_ pu_F
    rw [uf_o _ _ _ _ _ _ (by omega), uf_s, h9, nI_1]
  refine ⟨e, ?_⟩
  show (rcF_ F i v 60 11).toNatClampNeg = _
  rw [e, nI_clamp (by omega)]
theorem rcF_vlo {i i' : Nat} {v : vv_} {V : List vv_} (h9 : F 60 11 = nI (rec_ F)) (hq : rec_ F < 5000) (hi : i < 12) (hi' : i' < 12) (hne : i' ≠ i) (hv : vl_ F i' V) : vl_ (rcF_ F i v) i' V := by
  have hr := (rcF_rec (i := i) (v := v) h9 hq).2
  refine ⟨hv.1, fun w => ?_, hv.2.2⟩
  rw [hv.2.1 w]
  constructor
  · rintro ⟨k, k1, k2, k3, k4⟩
    refine ⟨k, by omega, ?_, ?_, ?_⟩
    · rw [rcF_o (by omega) (by omega) (by omega)]; exact k2
    · rw [rcF_o (by omega) (by omega) (by omega)]; exact k3
    · rw [rcF_o (by omega) (by omega) (by omega), rcF_o (by omega) (by omega) (by omega), rcF_o (by omega) (by omega) (by omega), rcF_o (by omega) (by omega) (by omega)]; exact k4
  · rintro ⟨k, k1, k2, k3, k4⟩
    have hk : k ≠ rec_ F := fun e => by
      rw [e, rcF_72] at k2
      exact hne ((nI_eq (by omega) (by omega)).mp k2).symm
    refine ⟨k, by omega, ?_, ?_, ?_⟩
    · rw [rcF_o (by omega) (by omega) (by omega)] at k2; exact k2
    · rw [rcF_o (by omega) (by omega) (by omega)] at k3; exact k3
    · rw [rcF_o (by omega) (by omega) (by omega), rcF_o (by omega) (by omega) (by omega), rcF_o (by omega) (by omega) (by omega), rcF_o (by omega) (by omega) (by omega)] at k4; exact k4
theorem rcF_vl {i : Nat} {v : vv_} {V : List vv_} (h9 : F 60 11 = nI (rec_ F)) (hq : rec_ F < 5000) (hv : vl_ F i V) (hk : v.2.2.1 = 1 ∨ v.2.2.1 = 2 ∨ v.2.2.1 = 3) (hw : ∀ w ∈ V, ¬ w.1 = v.1 ∧ ¬ w.2.1 = v.2.1) : vl_ (rcF_ F i v) i (ins_ v V) := by
  have hr := (rcF_rec (i := i) (v := v) h9 hq).2
  have h75 : rcF_ F i v 75 (rec_ F) = v.2.2.1 := by
    have := congrArg (fun x : vv_ => x.2.2.1) (rcF_tp (F := F) (i := i) (v := v))
    exact this
  refine ⟨ins_pw hv.1 hw, fun w => ?_, fun w hw' => ?_⟩
  · rw [ins_mem, hv.2.1 w]
    constructor
    · rintro (rfl | ⟨k, k1, k2, k3, k4⟩)
      · refine ⟨rec_ F, by omega, rcF_72, ?_, rcF_tp.symm⟩
        rw [h75]
        rcases hk with e | e | e <;> rw [e] <;> decide
      · refine ⟨k, by omega, ?_, ?_, ?_⟩
        · rw [rcF_o (by omega) (by omega) (by omega)]; exact k2
        · rw [rcF_o (by omega) (by omega) (by omega)]; exact k3
        · rw [rcF_o (by omega) (by omega) (by omega), rcF_o (by omega) (by omega) (by omega), rcF_o (by omega) (by omega) (by omega), rcF_o (by omega) (by omega) (by omega)]; exact k4
    · rintro ⟨k, k1, k2, k3, k4⟩
      by_cases e : k = rec_ F
      · subst e
        exact Or.inl (by rw [k4]; exact rcF_tp)
      · refine Or.inr ⟨k, by omega, ?_, ?_, ?_⟩
        · rw [rcF_o (by omega) (by omega) (by omega)] at k2; exact k2
        · rw [rcF_o (by omega) (by omega) (by omega)] at k3; exact k3
        · rw [rcF_o (by omega) (by omega) (by omega), rcF_o (by omega) (by omega) (by omega), rcF_o (by omega) (by omega) (by omega), rcF_o (by omega) (by omega) (by omega)] at k4; exact k4
  · rcases (ins_mem v w V).mp hw' with rfl | hw'
    · exact hk
    · exact hv.2.2 w hw'
theorem sim_rec {i : Nat} {v : vv_} (hs : sim_ A B T u h q S F) (hi : i < 12) (hq : q < 5000) (hk : v.2.2.1 = 1 ∨ v.2.2.1 = 2 ∨ v.2.2.1 = 3) (hg : sg2_ T (S.1 1 0) v) (hn : ∀ w ∈ S.2.2 i, ¬ w.2.1 = v.2.1) : sim_ A B T u (up_ h i (h i + 1)) (q + 1) (ad_ S.1 S.2.1 S.2.2 i v) (rcF_ F i v) := by
  obtain ⟨⟨h1, h2⟩, h3, h4, h5, h6, h7, h8, h9, h10⟩ := hs
  have hr := rcF_rec (i := i) (v := v) h9 (by omega)
  have ea : ∀ n, n ≠ 20 + i → (ad_ S.1 S.2.1 S.2.2 i v).1 n = S.1 n := fun n hn => uf_row _ _ _ _ _ hn
  have e1 : (ad_ S.1 S.2.1 S.2.2 i v).1 1 = S.1 1 := ea 1 (by omega)
  refine ⟨⟨fun n j hn => ?_, fun n j hn => ?_⟩, sA_row h3 (ea 0 (by omega)) e1 (fun j _ _ => rcF_o (by omega) (by omega) (by omega)), fun t' ht' => ?_, ok_row h5 (rcF_row (by omega)) (rcF_row (by omega)), fun i' hi' => ?_, fun i' hi' => ?_, fun c hc => ?_, ?_, ?_⟩
  · rw [ea n (by omega)]; exact h1 n j hn
  · rw [rcF_row (by omega)]; exact h2 n j hn
  · exact sB_row (h4 t' ht') (ea _ (by omega)) (fun n _ _ => by rw [rcF_row (by omega)])
  · rw [e1]
    show sl_ T _ (up_ S.2.2 i _ i') _ _ (up_ S.2.1 i _ i')
    by_cases e : i' = i
    · subst e
      rw [up_s, up_s]
      exact rcF_65
    · rw [up_o _ _ _ _ e, up_o _ _ _ _ e]
      exact sl_row (h6 i' hi') (fun n _ _ => rcF_o (by omega) (by omega) (by omega))
  · show sV_ T (up_ h i _ i') _ (up_ S.2.2 i _ i') _ _
    by_cases e : i' = i
    · subst e
      rw [up_s, up_s]
      obtain ⟨b1, b2, b3, b4, b5⟩ := h7 i' hi'
      refine ⟨?_, by rw [ins_len]; omega, by rw [ins_len, hr.2]; omega, ?_, ?_⟩
      · show uf_ S.1 (20 + i') 3 (S.1 (20 + i') 3 + 1) (20 + i') 3 = _
        rw [uf_s, b1, nI_1, ins_len]
      · refine rcF_vl h9 (by omega) b4 hk (fun w hw => ⟨fun e => ?_, hn w hw⟩)
        have := (b5 w hw).2.1
        rw [e, hg.2.1] at this
        exact hn w hw this.symm
      · intro w hw
        rw [e1]
        rcases (ins_mem v w _).mp hw with rfl | hw
        · exact hg
        · exact b5 w hw
    · rw [up_o _ _ _ _ e, up_o _ _ _ _ e]
      obtain ⟨b1, b2, b3, b4, b5⟩ := h7 i' hi'
      refine ⟨by rw [ea _ (by omega)]; exact b1, b2, by omega, rcF_vlo h9 (by omega) hi hi' e b4, by rw [e1]; exact b5⟩
  · rw [e1]
    exact sX_row (h8 c hc) (ea _ (by omega)) (ea _ (by omega)) (fun n a b => by rw [rcF_row (by omega)]) (fun n i a b _ => by rw [rcF_row (by omega)])
  · rw [hr.1, hr.2]
  · rw [hr.2]; omega
end SM
