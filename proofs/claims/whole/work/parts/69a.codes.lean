theorem dt_any0 {α : Type} {W : (α → Prop) → Prop} (h : dt_ W) {K : α → Prop} (hK : ∀ x, K x) : W K := by
  rcases h with ⟨x, hx⟩ | hx
  · exact (hx _).mpr (hK x)
  · exact hx _
section EE
variable {S : ss_}
theorem be_e {c : Nat} : beC_ S c (fun e _ _ => e = 0 ∨ e = 1 ∨ e = 2) := by
  unfold beC_
  split
  · exact Or.inl rfl
  · exact Or.inr (Or.inr rfl)
theorem se_e {c i : Nat} {y : Int32} : seC_ S c i y (fun e _ => e = 0 ∨ e = 1 ∨ e = 2) := by
  unfold seC_
  split
  · exact Or.inr (Or.inr rfl)
  · split
    · exact Or.inl rfl
    · exact Or.inr (Or.inr rfl)
theorem er_e {c i : Nat} : erC_ S c i (fun e _ => e = 0 ∨ e = 1 ∨ e = 2) := by
  unfold erC_
  split
  · exact Or.inr (Or.inr rfl)
  · split
    · exact Or.inl rfl
    · exact Or.inr (Or.inr rfl)
theorem ce_e {i : Nat} : ceC_ S i (fun e _ _ => e = 0 ∨ e = 1 ∨ e = 2) := by
  unfold ceC_
  split
  · exact Or.inr (Or.inr rfl)
  · refine dt_any0 dt_cu (K := fun x : Int32 × ss_ => if x.1 = -2 then ((2 : Nat) = 0 ∨ (2 : Nat) = 1 ∨ (2 : Nat) = 2) else ((0 : Nat) = 0 ∨ (0 : Nat) = 1 ∨ (0 : Nat) = 2)) (fun x => ?_)
    split
    · exact Or.inr (Or.inr rfl)
    · exact Or.inl rfl
theorem st_e {c : Nat} : stC_ S c (fun e _ _ => e = 0 ∨ e = 1 ∨ e = 2 ∨ e = 3) := by
  unfold stC_
  split
  · exact Or.inr (Or.inr (Or.inr rfl))
  · refine dt_any0 dt_av (K := fun x : Int32 × ss_ => if x.1 = -2 then ((2 : Nat) = 0 ∨ (2 : Nat) = 1 ∨ (2 : Nat) = 2 ∨ (2 : Nat) = 3) else ((0 : Nat) = 0 ∨ (0 : Nat) = 1 ∨ (0 : Nat) = 2 ∨ (0 : Nat) = 3)) (fun x => ?_)
    split
    · exact Or.inr (Or.inr (Or.inl rfl))
    · exact Or.inl rfl
theorem gtf_e {c i : Nat} : gtf_ S c i (fun e _ _ => e = 0 ∨ e = 1 ∨ e = 2 ∨ e = 3 ∨ e = 4) := by
  unfold gtf_
  cases lwb_ (S.1 (40 + c) 4) (S.2.2 i) with
  | none => exact Or.inr (Or.inr (Or.inr (Or.inl rfl)))
  | some v =>
    show ite (vv_g v 2 = 2) _ _
    split
    · exact Or.inr (Or.inr (Or.inr (Or.inl rfl)))
    · exact Or.inl rfl
theorem gt_e {c i : Nat} : gtC_ S c i (fun e _ _ => e = 0 ∨ e = 1 ∨ e = 2 ∨ e = 3 ∨ e = 4) := by
  have h2 : (2 : Nat) = 0 ∨ (2 : Nat) = 1 ∨ (2 : Nat) = 2 ∨ (2 : Nat) = 3 ∨ (2 : Nat) = 4 := Or.inr (Or.inr (Or.inl rfl))
  unfold gtC_ gt1_
  split
  · exact h2
  · split
    · split
      · split
        · exact Or.inr (Or.inr (Or.inr (Or.inl rfl)))
        · exact Or.inl rfl
      · split
        · exact h2
        · split
          · split
            · exact gtf_e
            · refine dt_any0 dt_cu (K := fun x : Int32 × ss_ => if x.1 = -2 then ((2 : Nat) = 0 ∨ (2 : Nat) = 1 ∨ (2 : Nat) = 2 ∨ (2 : Nat) = 3 ∨ (2 : Nat) = 4) else gtf_ x.2 c i (fun e _ _ => e = 0 ∨ e = 1 ∨ e = 2 ∨ e = 3 ∨ e = 4)) (fun x => ?_)
              split
              · exact h2
              · exact gtf_e
          · exact Or.inr (Or.inr (Or.inr (Or.inr rfl)))
    · exact h2
theorem ki_e {c : Nat} : kiC_ S c (fun _ _ => (0 : Nat) = 0) := by unfold kiC_; split <;> rfl
theorem tk_e {x : Int32} : tkC_ S x (fun _ _ => (0 : Nat) = 0) := by
  unfold tkC_; split
  · rfl
  · split <;> rfl
theorem cr_e {t : Nat} : crC_ S t (fun _ _ => (0 : Nat) = 0) := by unfold crC_; split <;> rfl
theorem re_e {t : Nat} : reC_ S t (fun _ _ => (0 : Nat) = 0) := by unfold reC_; split <;> rfl
theorem fa_e {t : Nat} {x b : Int32} : faC_ S t x b (fun _ _ => (0 : Nat) = 0) := by
  unfold faC_; split
  · rfl
  · split <;> rfl
theorem sgo_e {x : Int32} : ∀ {n k : Nat} {a : Int32} {S : ss_}, swC_go x n k a S (fun _ _ => (0 : Nat) = 0) := by
  intro n
  induction n with
  | zero => intro k a S; rfl
  | succ n ih =>
    intro k a S
    unfold swC_go
    split
    · split
      · rfl
      · exact ih
    · split
      · rfl
      · exact ih
theorem sw_e {x : Int32} : swC_ S x (fun _ _ => (0 : Nat) = 0) := by
  unfold swC_; split
  · rfl
  · exact sgo_e
end EE
theorem cd_z {cd : Nat → Int32} {e : Nat} {r r' w : Int32} (hcd : ∀ e, ¬ e = 0 → e ≤ 4 → ¬ cd e = 0) (h : mt_ cd e r r' w) (hw : w = 0) : e = 0 ∧ r = r' := by
  rcases h with ⟨a, _, b⟩ | ⟨a, b, c⟩
  · exact ⟨a, b⟩
  · exact absurd (c.symm.trans hw) (hcd e a b)
theorem cdn_z : ∀ e, ¬ e = 0 → e ≤ 4 → ¬ cdn_ e = 0 := by
  intro e h1 h2
  unfold cdn_
  exact nI_ne0 (by omega) (by omega)
theorem cds_z : ∀ e, ¬ e = 0 → e ≤ 4 → ¬ cds_ e = 0 := by
  intro e h1 h2
  unfold cds_
  split
  · decide
  · split
    · decide
    · exact nI_ne0 (by omega) (by omega)
theorem inv_zero {S : ss_} (a1 : S.1 60 0 = S.1 0 0) (a2 : S.1 60 2 = S.1 0 5) (a3 : S.1 1 0 = 1) (a4 : S.1 1 1 = 0) (a5 : S.1 60 3 = 1) (a6 : S.1 60 4 = 0) (a7 : S.1 60 11 = 0)
    (ht : ∀ t, t < 3 → S.1 (10 + t) 0 = 1 ∧ ∀ j, 1 ≤ j → S.1 (10 + t) j = 0) (hL : ∀ i, i < 12 → S.2.1 i = none) (hV : ∀ i, i < 12 → S.2.2 i = [] ∧ S.1 (20 + i) 3 = 0)
    (hx : ∀ c, c < 4 → S.1 (40 + c) 0 = nI c ∧ ∀ j, 1 ≤ j → S.1 (40 + c) j = 0) (hm : ∀ n j, 65 ≤ n → n ≤ 90 → S.1 n j = 0) : inv_ 0 S := by
  have hr : rec_ S.1 = 0 := by unfold rec_; rw [a7]; rfl
  refine ⟨fun x => x, ⟨fun _ _ _ => rfl, fun _ _ _ => rfl⟩, ⟨a1, a2, ?_, ?_, ?_, ?_, ?_, ?_⟩, fun t h => ?_, ⟨fun i hi => ?_, fun i hi => ?_⟩, fun i hi => ?_, fun i hi => ?_, fun c hc => ?_, ?_, ?_⟩
  · rw [a5, a3]
  · rw [a6, a4]
  · rw [a3]; decide
  · rw [a3]; decide
  · rw [a3, a4]; decide
  · rw [a3, a4]; decide
  · obtain ⟨t0, t1⟩ := ht t h
    refine ⟨Or.inl ⟨t0, hm 77 t (by omega) (by omega)⟩, ?_, ?_, ?_, Or.inl ⟨?_, t1 4 (by omega)⟩, ?_, ?_, ?_⟩
    · rw [t1 1 (by omega)]; exact hm 78 t (by omega) (by omega)
    · rw [t1 2 (by omega)]; exact hm 79 t (by omega) (by omega)
    · rw [t1 3 (by omega)]; exact hm 80 t (by omega) (by omega)
    · rw [hm 81 t (by omega) (by omega)]; decide
    · rw [t1 5 (by omega)]; exact hm 82 t (by omega) (by omega)
    · rw [t1 2 (by omega)]; decide
    · rw [t1 2 (by omega)]; decide
  · unfold pn_
    rw [hm 66 i (by omega) (by omega)]; decide
  · unfold on_
    rw [hm 67 i (by omega) (by omega)]; decide
  · rw [hL i hi]; exact hm 65 i (by omega) (by omega)
  · obtain ⟨v1, v2⟩ := hV i hi
    rw [v1]
    refine ⟨by rw [v2]; decide, Nat.zero_le _, Nat.zero_le _, ⟨List.Pairwise.nil, fun v => ?_, fun v hv => by cases hv⟩, fun v hv => by cases hv⟩
    constructor
    · intro hv; cases hv
    · rintro ⟨k, k1, _⟩; rw [hr] at k1; omega
  · obtain ⟨x0, x1⟩ := hx c hc
    exact ⟨x0, Or.inl ⟨x1 2 (by omega), hm 83 c (by omega) (by omega), fun j a b => x1 j (by omega)⟩⟩
  · rw [hr, a7]; decide
  · rw [hr]; omega
