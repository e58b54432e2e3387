def lq_ (M M' : mm_M) : Prop := ∀ b, mm_k M b = some (.inl 4) → mm_k M' b = some (.inl 4) ∧ ∀ j, mm_i M' b j = mm_i M b j
theorem lq_refl (M : mm_M) : lq_ M M := fun _ h => ⟨h, fun _ => rfl⟩
theorem lq_trans {M M1 M2 : mm_M} (h1 : lq_ M M1) (h2 : lq_ M1 M2) : lq_ M M2 := fun b h => ⟨(h2 b (h1 b h).1).1, fun j => ((h2 b (h1 b h).1).2 j).trans ((h1 b h).2 j)⟩
section JC
variable {l : Launch} {y : MethodName} {cc : ByteArray} {nL : Nat} {ret : Option FieldType} {G : mm_G} {R : Room} {A : Nat → Prop} {Q : mm_O → mm_M → Prop} {mc ms pc : Nat} {lv : List (Nat × Value)} {st : List Value} {M : mm_M} {g : Nat → Nat} {S : ss_}
theorem jj_home {i idx : Nat} (hS : rp_ g M S) (hd : decode cc pc = .ok (.getfield idx, 3)) (hf : mm_Fl y.cls idx 3 0) (hi : i < 12) (kk : jj_ l y cc nL ret G R A Q mc ms (pc + 3) lv (.ref (g (10 + i / 4)) :: st) M) : jj_ l y cc nL ret G R A Q mc ms pc lv (.ref (g (20 + i)) :: st) M :=
  jj_getr hd hf (hS.1.1 _ _ (ok_c hi)) (fun _ => rfl) (some (g (10 + i / 4))) (hS.1.2.2.2.2.1 i hi).2 kk
theorem jj_tc1 {idx : Nat} (hS : rp_ g M S) (hd : decode cc pc = .ok (.getfield idx, 3)) (hf : mm_Fl y.cls idx 0 1) (kk : jj_ l y cc nL ret G R A Q mc ms (pc + 3) lv (.ref (g 1) :: st) M) : jj_ l y cc nL ret G R A Q mc ms pc lv (.ref (g 0) :: st) M :=
  jj_getr hd hf (hS.1.1 0 _ rfl) (fun _ => rfl) (some (g 1)) hS.1.2.2.1.1 kk
theorem jj_tc2 {idx : Nat} (hS : rp_ g M S) (hd : decode cc pc = .ok (.getfield idx, 3)) (hf : mm_Fl y.cls idx 0 2) (kk : jj_ l y cc nL ret G R A Q mc ms (pc + 3) lv (.ref (g 2) :: st) M) : jj_ l y cc nL ret G R A Q mc ms pc lv (.ref (g 0) :: st) M :=
  jj_getr hd hf (hS.1.1 0 _ rfl) (fun _ => rfl) (some (g 2)) hS.1.2.2.1.2.1 kk
theorem jj_tc3 {idx : Nat} (hS : rp_ g M S) (hd : decode cc pc = .ok (.getfield idx, 3)) (hf : mm_Fl y.cls idx 0 3) (kk : jj_ l y cc nL ret G R A Q mc ms (pc + 3) lv (.ref (g 3) :: st) M) : jj_ l y cc nL ret G R A Q mc ms pc lv (.ref (g 0) :: st) M :=
  jj_getr hd hf (hS.1.1 0 _ rfl) (fun _ => rfl) (some (g 3)) hS.1.2.2.1.2.2.1 kk
theorem jj_tc4 {idx : Nat} (hS : rp_ g M S) (hd : decode cc pc = .ok (.getfield idx, 3)) (hf : mm_Fl y.cls idx 0 4) (kk : jj_ l y cc nL ret G R A Q mc ms (pc + 3) lv (.ref (g 4) :: st) M) : jj_ l y cc nL ret G R A Q mc ms pc lv (.ref (g 0) :: st) M :=
  jj_getr hd hf (hS.1.1 0 _ rfl) (fun _ => rfl) (some (g 4)) hS.1.2.2.1.2.2.2 kk
theorem jj_vals {c idx : Nat} (hS : rp_ g M S) (hd : decode cc pc = .ok (.getfield idx, 3)) (hf : mm_Fl y.cls idx 6 1) (hc : c < 4) (kk : jj_ l y cc nL ret G R A Q mc ms (pc + 3) lv (.ref (g (50 + c)) :: st) M) : jj_ l y cc nL ret G R A Q mc ms pc lv (.ref (g (40 + c)) :: st) M :=
  jj_getr hd hf (hS.1.1 _ _ (ok_x hc)) (fun _ => rfl) (some (g (50 + c))) (hS.1.2.2.2.2.2.1 c hc).2 kk
theorem jj_at2 {i : Int32} (t : Nat) (hS : rp_ g M S) (hd : decode cc pc = .ok (.aaload, 1)) (ht : t < 3) (hi : i = nI t) (kk : jj_ l y cc nL ret G R A Q mc ms (pc + 1) lv (.ref (g (10 + t)) :: st) M) : jj_ l y cc nL ret G R A Q mc ms pc lv (.int i :: .ref (g 2) :: st) M := by
  subst hi
  refine jj_aald hd (hS.1.1 2 _ rfl) (Or.inl rfl) (vp_in_nI (by omega) (by decide)) (some (g (10 + t))) ?_ kk
  rw [nI_clamp (by omega)]
  exact hS.1.2.2.2.1 t ht
theorem jj_at3 {i : Int32} (t : Nat) (hS : rp_ g M S) (hd : decode cc pc = .ok (.aaload, 1)) (ht : t < 12) (hi : i = nI t) (kk : jj_ l y cc nL ret G R A Q mc ms (pc + 1) lv (.ref (g (20 + t)) :: st) M) : jj_ l y cc nL ret G R A Q mc ms pc lv (.int i :: .ref (g 3) :: st) M := by
  subst hi
  refine jj_aald hd (hS.1.1 3 _ rfl) (Or.inr (Or.inl rfl)) (vp_in_nI (by omega) (by decide)) (some (g (20 + t))) ?_ kk
  rw [nI_clamp (by omega)]
  exact (hS.1.2.2.2.2.1 t ht).1
theorem jj_at4 {i : Int32} (t : Nat) (hS : rp_ g M S) (hd : decode cc pc = .ok (.aaload, 1)) (ht : t < 4) (hi : i = nI t) (kk : jj_ l y cc nL ret G R A Q mc ms (pc + 1) lv (.ref (g (40 + t)) :: st) M) : jj_ l y cc nL ret G R A Q mc ms pc lv (.int i :: .ref (g 4) :: st) M := by
  subst hi
  refine jj_aald hd (hS.1.1 4 _ rfl) (Or.inr (Or.inr rfl)) (vp_in_nI (by omega) (by decide)) (some (g (40 + t))) ?_ kk
  rw [nI_clamp (by omega)]
  exact (hS.1.2.2.2.2.2.1 t ht).1
theorem jj_lk0 {i idx : Nat} (hS : rp_ g M S) (hd : decode cc pc = .ok (.getfield idx, 3)) (hf : mm_Fl y.cls idx 3 1) (hi : i < 12) (hL : S.2.1 i = none) (kk : jj_ l y cc nL ret G R A Q mc ms (pc + 3) lv (.null :: st) M) : jj_ l y cc nL ret G R A Q mc ms pc lv (.ref (g (20 + i)) :: st) M := by
  have h := hS.2.2.1 i hi
  rw [hL] at h
  exact jj_getr hd hf (hS.1.1 _ _ (ok_c hi)) (fun _ => rfl) none h kk
theorem jj_lk1 {i idx : Nat} {f : Nat → Int32} (hS : rp_ g M S) (hd : decode cc pc = .ok (.getfield idx, 3)) (hf : mm_Fl y.cls idx 3 1) (hi : i < 12) (hL : S.2.1 i = some f) (kk : ∀ a, mm_k M a = some (.inl 4) → (∀ j, j < 6 → mm_i M a j = f j) → jj_ l y cc nL ret G R A Q mc ms (pc + 3) lv (.ref a :: st) M) : jj_ l y cc nL ret G R A Q mc ms pc lv (.ref (g (20 + i)) :: st) M := by
  have h := hS.2.2.1 i hi
  rw [hL] at h
  obtain ⟨a, h1, h2, h3⟩ := h
  exact jj_getr hd hf (hS.1.1 _ _ (ok_c hi)) (fun _ => rfl) (some a) h1 (kk a h2 h3)
theorem jj_lf {a idx k : Nat} {f : Nat → Int32} (ha : mm_k M a = some (.inl 4)) (hfa : ∀ j, j < 6 → mm_i M a j = f j) (hd : decode cc pc = .ok (.getfield idx, 3)) (hf : mm_Fl y.cls idx 4 k) (hv : ∀ M' : mm_M, mm_fv M' a (nn_t 4 k) k = .int (mm_i M' a k)) (hk : k < 6) (kk : jj_ l y cc nL ret G R A Q mc ms (pc + 3) lv (.int (f k) :: st) M) : jj_ l y cc nL ret G R A Q mc ms pc lv (.ref a :: st) M :=
  jj_get hd hf ha (by rw [hv M, hfa k hk]) kk
def vv_g (v : vv_) (k : Nat) : Int32 := match k with
  | 0 => v.1
  | 1 => v.2.1
  | 2 => v.2.2.1
  | _ => v.2.2.2
theorem jj_vf {a idx k : Nat} {v : vv_} (ha : mm_k M a = some (.inl 5)) (hva : vv_of M a = v) (hd : decode cc pc = .ok (.getfield idx, 3)) (hf : mm_Fl y.cls idx 5 k) (hv : ∀ M' : mm_M, mm_fv M' a (nn_t 5 k) k = .int (mm_i M' a k)) (hk : k < 4) (kk : jj_ l y cc nL ret G R A Q mc ms (pc + 3) lv (.int (vv_g v k) :: st) M) : jj_ l y cc nL ret G R A Q mc ms pc lv (.ref a :: st) M := by
  refine jj_get hd hf ha ?_ kk
  rw [hv M, ← hva]
  match k, hk with
  | 0, _ => rfl
  | 1, _ => rfl
  | 2, _ => rfl
  | 3, _ => rfl
theorem jj_sl0 {i idx : Nat} (hS : rp_ g M S) (hd : decode cc pc = .ok (.putfield idx, 3)) (hf : mm_Fl y.cls idx 3 1 ∧ (nn_T 3 1).2.2.2 = false) (hi : i < 12) (kk : ∀ M', rp_ g M' (S.1, up_ S.2.1 i none, S.2.2) → lq_ M M' → jj_ l y cc nL ret G R A Q mc ms (pc + 3) lv st M') : jj_ l y cc nL ret G R A Q mc ms pc lv (.null :: .ref (g (20 + i)) :: st) M :=
  jj_putr none hd (Or.inl hf) (hS.1.1 _ _ (ok_c hi)) (fun _ => rfl) (mm_nr rfl) (kk _ (rp_slk hS hi rfl) (lq_refl M))
theorem jj_sl1 {i idx a : Nat} {f : Nat → Int32} (hS : rp_ g M S) (hd : decode cc pc = .ok (.putfield idx, 3)) (hf : mm_Fl y.cls idx 3 1 ∧ (nn_T 3 1).2.2.2 = false) (hi : i < 12) (ha : mm_k M a = some (.inl 4)) (hfa : ∀ j, j < 6 → mm_i M a j = f j) (kk : ∀ M, rp_ g M (S.1, up_ S.2.1 i (some f), S.2.2) → jj_ l y cc nL ret G R A Q mc ms (pc + 3) lv st M) : jj_ l y cc nL ret G R A Q mc ms pc lv (.ref a :: .ref (g (20 + i)) :: st) M :=
  jj_putr (some a) hd (Or.inl hf) (hS.1.1 _ _ (ok_c hi)) (fun _ => rfl) (mm_nr rfl) (kk _ (rp_slk hS hi ⟨a, rfl, ha, hfa⟩))
end JC
def plF_ (F : Nat → Nat → Int32) (t : Nat) : Nat → Nat → Int32 :=
  uf_ (uf_ (uf_ (uf_ (uf_ F (10 + t) 3 (F (10 + t) 3 + 1)) (10 + t) 2 (if F (10 + t) 2 < 8 then F (10 + t) 2 else 0)) (10 + t) 4 (if F (10 + t) 4 ≤ 0 then F (10 + t) 4 else F (10 + t) 4 - 1)) (10 + t) 0 (if F (10 + t) 4 = 1 then 0 else F (10 + t) 0)) (10 + t) 2 (if F (10 + t) 4 = 1 ∧ F (10 + t) 5 = 0 then (if F (10 + t) 2 < 8 then F (10 + t) 2 else 0) else (if F (10 + t) 2 < 8 then F (10 + t) 2 else 0) + 1)
def plr_ (F : Nat → Nat → Int32) (t : Nat) : Int32 := if F (10 + t) 4 = 1 ∧ F (10 + t) 5 = 0 then 0 else 1
theorem cs_Ta_putsIntoLog {l : Launch} {g : Nat → Nat} {S : ss_} {Q : Option Value → ss_ → Prop} {t : Nat} (ht : t < 3) (hQ : Q (some (.int (plr_ S.1 t))) (plF_ S.1 t, S.2)) : cs_ l yy_Ta_putsIntoLog bb_Ta_putsIntoLog 3 (some .boolean) 0 0 0 g [.ref (g (10 + t))] S Q := by
  intro M hS
  have e := hS.2.1 _ _ (ok_t ht)
  refine ct_Ta_putsIntoLog (hS.1.1 _ _ (ok_t ht)) ⟨(plF_ S.1 t, S.2), ?_, ?_⟩
  · unfold pl_M pl_L plF_
    simp only [e]
    exact rp_si (rp_si (rp_si (rp_si (rp_si hS (ok_t ht)) (ok_t ht)) (ok_t ht)) (ok_t ht)) (ok_t ht)
  · unfold pl_r
    simp only [e]
    exact hQ
def lb_ (f : Option (Nat → Int32)) (x : Int32) : Int32 := match f with
  | none => 0
  | some f => if f 0 = x then 1 else 0
def lt_ (f : Option (Nat → Int32)) (x : Int32) : Int32 := match f with
  | none => 0
  | some f => if x ≤ f 0 then 0 else 1
