def dt_ {α : Type} (W : (α → Prop) → Prop) : Prop := (∃ x, ∀ K, W K ↔ K x) ∨ ∀ K, W K
theorem dt_pt {α : Type} (x : α) : dt_ (fun K => K x) := Or.inl ⟨x, fun _ => Iff.rfl⟩
theorem dt_tr {α : Type} : dt_ (fun _ : α → Prop => True) := Or.inr fun _ => trivial
theorem dt_ite {α : Type} {p : Prop} [Decidable p] {W1 W2 : (α → Prop) → Prop} (h1 : dt_ W1) (h2 : dt_ W2) : dt_ (fun K => if p then W1 K else W2 K) := by
  by_cases hp : p
  · simp only [if_pos hp]; exact h1
  · simp only [if_neg hp]; exact h2
theorem dt_bind {α β : Type} {W : (α → Prop) → Prop} {G : α → (β → Prop) → Prop} (h1 : dt_ W) (h2 : ∀ x, dt_ (G x)) : dt_ (fun K => W (fun x => G x K)) := by
  rcases h1 with ⟨x, hx⟩ | hx
  · rcases h2 x with ⟨y, hy⟩ | hy
    · exact Or.inl ⟨y, fun K => (hx _).trans (hy K)⟩
    · exact Or.inr fun K => (hx _).mpr (hy K)
  · exact Or.inr fun K => hx _
theorem dt_mono {α : Type} {W : (α → Prop) → Prop} (h : dt_ W) {K K' : α → Prop} (hW : W K) (hK : ∀ x, K x → K' x) : W K' := by
  rcases h with ⟨x, hx⟩ | hx
  · exact (hx K').mpr (hK x ((hx K).mp hW))
  · exact hx K'
theorem dt_all {α β : Type} {W : (α → Prop) → Prop} (h : dt_ W) {K : β → α → Prop} (hW : ∀ b, W (K b)) : W (fun x => ∀ b, K b x) := by
  rcases h with ⟨x, hx⟩ | hx
  · exact (hx _).mpr (fun b => (hx _).mp (hW b))
  · exact hx _
section DT
variable {S : ss_}
theorem dt_cuf {i : Nat} {f : Nat → Int32} : dt_ (fun K : Int32 × ss_ → Prop => cuf_ S i f (fun r S1 => K (r, S1))) := by
  unfold cuf_
  exact dt_ite (dt_pt (_, _)) (dt_pt (_, _))
theorem dt_cu {i : Nat} : dt_ (fun K : Int32 × ss_ → Prop => cu_ S i (fun r S1 => K (r, S1))) := by
  unfold cu_
  cases S.2.1 i with
  | none => exact dt_pt (0, S)
  | some f =>
    simp only [cu1_]
    refine dt_ite (dt_pt (_, _)) ?_
    cases vwb_ (f 0) (S.2.2 (pN_ f)) with
    | some v => simp only [cu2_]; exact dt_ite (dt_pt (_, _)) (dt_pt (_, _))
    | none =>
      simp only [cu2_]
      refine dt_ite dt_cuf ?_
      cases S.2.1 (pN_ f) with
      | none => exact dt_tr
      | some f2 =>
        simp only [cu3_]
        exact dt_ite (dt_pt (_, _)) (dt_ite (dt_pt (_, _)) (dt_ite (dt_pt (_, _)) dt_cuf))
theorem dt_tl {c i : Nat} : dt_ (fun K : Int32 × ss_ → Prop => tl_ S c i (fun r S1 => K (r, S1))) := by
  unfold tl_ tll_
  refine dt_ite (dt_pt (_, _)) (dt_ite ?_ (dt_pt (_, _)))
  exact dt_bind (W := fun K : Int32 × ss_ → Prop => cu_ S i (fun r S1 => K (r, S1))) (G := fun x K => if x.1 = -2 then K (-2, x.2) else if ovc_ (x.2.1 (40 + c) 4) (x.2.2.2 i) = 0 then (if plF_ x.2.1 (i / 4) (10 + i / 4) 0 = 0 then K (-2, wl_ x.2 i (lkF_ x.2.1 c i (x.2.1 0 5))) else K (1, wl_ x.2 i (lkF_ x.2.1 c i (x.2.1 0 5)))) else K (0, (trE_ x.2.1 c, x.2.2))) dt_cu (fun x => dt_ite (dt_pt (_, _)) (dt_ite (dt_ite (dt_pt (_, _)) (dt_pt (_, _))) (dt_pt (_, _))))
theorem dt_pw {c i : Nat} : dt_ (fun K : Int32 × ss_ → Prop => pw1_ S c i (fun r S1 => K (r, S1))) := by
  unfold pw1_ pwf_
  refine dt_ite (dt_pt (_, _)) (dt_ite ?_ (dt_pt (_, _)))
  exact dt_bind (W := fun K : Int32 × ss_ → Prop => tl_ S c i (fun r S1 => K (r, S1))) (G := fun x K => if x.1 = 1 then K (1, (uf_ x.2.1 (40 + c) 8 (x.2.1 (40 + c) 8 ||| b1_ i), x.2.2)) else K (x.1, x.2)) dt_tl (fun x => dt_ite (dt_pt (_, _)) (dt_pt (_, _)))
theorem dt_dcf {c : Nat} : dt_ (fun K : Int32 × ss_ → Prop => dcf_ S c (fun r S1 => K (r, S1))) := by
  unfold dcf_
  exact dt_ite (dt_pt (_, _)) (dt_pt (_, _))
theorem dt_dc {c : Nat} : dt_ (fun K : Int32 × ss_ → Prop => dcC_ S c (fun r S1 => K (r, S1))) := by
  unfold dcC_ dc0_
  refine dt_ite (dt_pt (_, _)) ?_
  cases vwb_ (S.1 (40 + c) 4) (S.2.2 (le_ (S.1 (40 + c) 6))) with
  | some v => exact dt_dcf
  | none =>
    simp only [dc1_]
    refine dt_ite (dt_pt (_, _)) ?_
    cases S.2.1 (le_ (S.1 (40 + c) 6)) with
    | none => exact dt_tr
    | some f => simp only [dc2_]; exact dt_ite (dt_pt (_, _)) dt_dcf
theorem dt_fof {c i : Nat} : dt_ (fun K : Int32 × ss_ → Prop => fof_ S c i (fun r S1 => K (r, S1))) := by
  unfold fof_
  exact dt_ite (dt_pt (_, _)) (dt_pt (_, _))
theorem dt_fo {c : Nat} : dt_ (fun K : Int32 × ss_ → Prop => foC_ S c (fun r S1 => K (r, S1))) := by
  unfold foC_ fo1_
  refine dt_ite (dt_pt (_, _)) (dt_ite dt_fof ?_)
  cases S.2.1 (le_ (S.1 (40 + c) 6 &&& (S.1 (40 + c) 9 ^^^ (-1)))) with
  | none => exact dt_tr
  | some f => simp only [fo2_]; exact dt_ite (dt_pt (_, _)) dt_fof
theorem dt_av {c : Nat} : dt_ (fun K : Int32 × ss_ → Prop => avC_ S c (fun r S1 => K (r, S1))) := by
  unfold avC_
  exact dt_ite (dt_pt (_, _)) (dt_ite (dt_ite (dt_pt (_, _)) (dt_ite dt_dc dt_fo)) dt_pw)
abbrev er_ : Type := Nat × Int32 × ss_
theorem dt_st {c : Nat} : dt_ (fun K : er_ → Prop => stC_ S c (fun e r S1 => K (e, r, S1))) := by
  unfold stC_
  refine dt_ite (dt_pt (_, _, _)) ?_
  exact dt_bind (W := fun K : Int32 × ss_ → Prop => avC_ (uf_ S.1 (40 + c) 3 1, S.2) c (fun r S1 => K (r, S1))) (G := fun x (K : er_ → Prop) => if x.1 = -2 then K (2, 0, x.2) else K (0, x.1, x.2)) dt_av (fun x => dt_ite (dt_pt (_, _, _)) (dt_pt (_, _, _)))
theorem dt_ce {i : Nat} : dt_ (fun K : er_ → Prop => ceC_ S i (fun e r S1 => K (e, r, S1))) := by
  unfold ceC_
  refine dt_ite (dt_pt (_, _, _)) ?_
  exact dt_bind (W := fun K : Int32 × ss_ → Prop => cu_ S i (fun r S1 => K (r, S1))) (G := fun x (K : er_ → Prop) => if x.1 = -2 then K (2, 0, x.2) else K (0, x.1, x.2)) dt_cu (fun x => dt_ite (dt_pt (_, _, _)) (dt_pt (_, _, _)))
theorem dt_gtf {c i : Nat} : dt_ (fun K : er_ → Prop => gtf_ S c i (fun e r S1 => K (e, r, S1))) := by
  unfold gtf_
  cases lwb_ (S.1 (40 + c) 4) (S.2.2 i) with
  | none => exact dt_pt (3, 0, S)
  | some v => simp only [gtv_]; exact dt_ite (dt_pt (_, _, _)) (dt_pt (_, _, _))
theorem dt_gt {c i : Nat} : dt_ (fun K : er_ → Prop => gtC_ S c i (fun e r S1 => K (e, r, S1))) := by
  unfold gtC_ gt1_
  refine dt_ite (dt_pt (_, _, _)) (dt_ite (dt_ite (dt_ite (dt_pt (_, _, _)) (dt_pt (_, _, _))) (dt_ite (dt_pt (_, _, _)) (dt_ite (dt_ite dt_gtf ?_) (dt_pt (_, _, _))))) (dt_pt (_, _, _)))
  exact dt_bind (W := fun K : Int32 × ss_ → Prop => cu_ S i (fun r S1 => K (r, S1))) (G := fun x (K : er_ → Prop) => if x.1 = -2 then K (2, 0, x.2) else gtf_ x.2 c i (fun e r S1 => K (e, r, S1))) dt_cu (fun x => dt_ite (dt_pt (_, _, _)) dt_gtf)
theorem dt_be {c : Nat} : dt_ (fun K : er_ → Prop => beC_ S c (fun e r S1 => K (e, r, S1))) := by
  unfold beC_
  exact dt_ite (dt_pt (_, _, _)) (dt_pt (_, _, _))
theorem dt_se {c i : Nat} {y : Int32} : dt_ (fun K : er_ → Prop => seC_ S c i y (fun e S1 => K (e, 0, S1))) := by
  unfold seC_
  exact dt_ite (dt_pt (_, _, _)) (dt_ite (dt_pt (_, _, _)) (dt_pt (_, _, _)))
theorem dt_er {c i : Nat} : dt_ (fun K : er_ → Prop => erC_ S c i (fun e S1 => K (e, 0, S1))) := by
  unfold erC_
  exact dt_ite (dt_pt (_, _, _)) (dt_ite (dt_pt (_, _, _)) (dt_pt (_, _, _)))
theorem dt_ki {c : Nat} : dt_ (fun K : er_ → Prop => kiC_ S c (fun r S1 => K (0, r, S1))) := by
  unfold kiC_
  exact dt_ite (dt_pt (_, _, _)) (dt_pt (_, _, _))
theorem dt_tk {x : Int32} : dt_ (fun K : er_ → Prop => tkC_ S x (fun r S1 => K (0, r, S1))) := by
  unfold tkC_
  exact dt_ite (dt_pt (_, _, _)) (dt_ite (dt_pt (_, _, _)) (dt_pt (_, _, _)))
theorem dt_cr {t : Nat} : dt_ (fun K : er_ → Prop => crC_ S t (fun r S1 => K (0, r, S1))) := by
  unfold crC_
  exact dt_ite (dt_pt (_, _, _)) (dt_pt (_, _, _))
theorem dt_re {t : Nat} : dt_ (fun K : er_ → Prop => reC_ S t (fun r S1 => K (0, r, S1))) := by
  unfold reC_
  exact dt_ite (dt_pt (_, _, _)) (dt_pt (_, _, _))
theorem dt_fa {t : Nat} {x b : Int32} : dt_ (fun K : er_ → Prop => faC_ S t x b (fun r S1 => K (0, r, S1))) := by
  unfold faC_
  exact dt_ite (dt_pt (_, _, _)) (dt_ite (dt_pt (_, _, _)) (dt_pt (_, _, _)))
theorem dt_sgo {x : Int32} : ∀ {n k : Nat} {a : Int32} {S : ss_}, dt_ (fun K : er_ → Prop => swC_go x n k a S (fun r S1 => K (0, r, S1))) := by
  intro n
  induction n with
  | zero => intro k a S; exact dt_pt (0, a, S)
  | succ n ih =>
    intro k a S
    unfold swC_go
    exact dt_ite (dt_ite (dt_pt (_, _, _)) ih) (dt_ite (dt_pt (_, _, _)) ih)
theorem dt_sw {x : Int32} : dt_ (fun K : er_ → Prop => swC_ S x (fun r S1 => K (0, r, S1))) := by
  unfold swC_
  exact dt_ite (dt_pt (_, _, _)) dt_sgo
end DT
