def qs_ (g : Nat → Nat) (Q : Option Value → ss_ → Prop) : Option Value → mm_M → Prop := fun v M => ∃ S, rp_ g M S ∧ Q v S
def cs_ (l : Launch) (y : MethodName) (cc : ByteArray) (nL : Nat) (ret : Option FieldType) (d mc ms : Nat) (g : Nat → Nat) (vs : List Value) (S : ss_) (Q : Option Value → ss_ → Prop) : Prop :=
  ∀ M, rp_ g M S → ct_ l y cc nL ret d mc ms vs M (qs_ g Q)
theorem ct_mono {l : Launch} {y : MethodName} {cc : ByteArray} {nL : Nat} {ret : Option FieldType} {d mc ms : Nat} {vs : List Value} {M : mm_M} {Q Q' : Option Value → mm_M → Prop} (h : ∀ v M', Q v M' → Q' v M') (k : ct_ l y cc nL ret d mc ms vs M Q) : ct_ l y cc nL ret d mc ms vs M Q' := by
  intro G sz p e ha hc hk s m args below hf happ hP hK
  obtain ⟨n, o, h1, h2, h3, ⟨oo, M', h4, h5, h6⟩, h7⟩ := k G sz p e ha hc hk s m args below hf happ hP hK
  refine ⟨n, o, h1, h2, h3, ⟨oo, M', h4, ?_, h6⟩, h7⟩
  cases oo with
  | inl v => exact h v M' h5
  | inr q => exact h5
section JS
variable {l : Launch} {y : MethodName} {cc : ByteArray} {nL : Nat} {ret : Option FieldType} {G : mm_G} {R : Room} {A : Nat → Prop} {Q : mm_O → mm_M → Prop} {mc ms pc : Nat} {lv : List (Nat × Value)} {st : List Value} {M : mm_M} {g : Nat → Nat} {S : ss_}
theorem jj_gS {n ci idx k : Nat} (hS : rp_ g M S) (hd : decode cc pc = .ok (.getfield idx, 3)) (hf : mm_Fl y.cls idx ci k) (hn : oo_k n = some (.inl ci)) (hv : ∀ M' : mm_M, mm_fv M' (g n) (nn_t ci k) k = .int (mm_i M' (g n) k)) (kk : jj_ l y cc nL ret G R A Q mc ms (pc + 3) lv (.int (S.1 n k) :: st) M) : jj_ l y cc nL ret G R A Q mc ms pc lv (.ref (g n) :: st) M :=
  jj_get hd hf (hS.1.1 n _ hn) (by rw [hv M, hS.2.1 n _ hn k]) kk
theorem jj_rS {n k idx : Nat} (hS : rp_ g M S) (hd : decode cc pc = .ok (.getfield idx, 3)) (hf : mm_Fl y.cls idx 7 k) (hk : oo_m k = true) (hv : ∀ M' : mm_M, mm_fv M' (g 60) (nn_t 7 k) k = va_rf (mm_r M' (g 60) k)) (hn : 60 + k = n) (kk : jj_ l y cc nL ret G R A Q mc ms (pc + 3) lv (.ref (g n) :: st) M) : jj_ l y cc nL ret G R A Q mc ms pc lv (.ref (g 60) :: st) M := by
  subst hn
  exact jj_getr hd hf (hS.1.1 60 _ rfl) hv (some (g (60 + k))) (hS.1.2.2.2.2.2.2 k hk) kk
theorem jj_pS {n ci idx k : Nat} {x : Int32} (hS : rp_ g M S) (hd : decode cc pc = .ok (.putfield idx, 3)) (hf : mm_Fl y.cls idx ci k ∧ (nn_T ci k).2.2.2 = false) (hn : oo_k n = some (.inl ci)) (hv : ∀ M' : mm_M, mm_fv M' (g n) (nn_t ci k) k = .int (mm_i M' (g n) k)) (hx : narrow (nn_t ci k) (.int x) = .int x ∧ fits (nn_t ci k) (.int x) = true)
    (kk : ∀ M', rp_ g M' (uf_ S.1 n k x, S.2) → jj_ l y cc nL ret G R A Q mc ms (pc + 3) lv st M') : jj_ l y cc nL ret G R A Q mc ms pc lv (.int x :: .ref (g n) :: st) M :=
  jj_puti hd (Or.inl hf) (hS.1.1 n _ hn) hv hx (kk _ (rp_si hS hn))
theorem jj_aS {n N : Nat} {i : Int32} (hS : rp_ g M S) (hd : decode cc pc = .ok (.iaload, 1)) (hn : oo_k n = some (.inr (0, N))) (hin : vp_in i N) (j : Nat) (hj : i.toNatClampNeg = j) (kk : jj_ l y cc nL ret G R A Q mc ms (pc + 1) lv (.int (S.1 n j) :: st) M) : jj_ l y cc nL ret G R A Q mc ms pc lv (.int i :: .ref (g n) :: st) M := by
  refine jj_iald hd (hS.1.1 n _ hn) (Or.inl rfl) hin ?_
  rw [hS.2.1 n _ hn, hj]
  exact kk
theorem jj_zS {n N : Nat} {i : Int32} (hS : rp_ g M S) (hd : decode cc pc = .ok (.baload, 1)) (hn : oo_k n = some (.inr (1, N))) (hin : vp_in i N) (j : Nat) (hj : i.toNatClampNeg = j) (kk : jj_ l y cc nL ret G R A Q mc ms (pc + 1) lv (.int (S.1 n j) :: st) M) : jj_ l y cc nL ret G R A Q mc ms pc lv (.int i :: .ref (g n) :: st) M := by
  refine jj_zald hd (hS.1.1 n _ hn) hin ?_
  rw [hS.2.1 n _ hn, hj]
  exact kk
theorem jj_asS {n N : Nat} {i x : Int32} (hS : rp_ g M S) (hd : decode cc pc = .ok (.iastore, 1)) (hn : oo_k n = some (.inr (0, N))) (hin : vp_in i N) (j : Nat) (hj : i.toNatClampNeg = j) (kk : ∀ M', rp_ g M' (uf_ S.1 n j x, S.2) → jj_ l y cc nL ret G R A Q mc ms (pc + 1) lv st M') : jj_ l y cc nL ret G R A Q mc ms pc lv (.int x :: .int i :: .ref (g n) :: st) M := by
  subst hj
  exact jj_iast hd (hS.1.1 n _ hn) hin (kk _ (rp_si hS hn))
theorem jj_zsS {n N : Nat} {i x : Int32} (hS : rp_ g M S) (hd : decode cc pc = .ok (.bastore, 1)) (hn : oo_k n = some (.inr (1, N))) (hin : vp_in i N) (hz : narrow .boolean (.int x) = .int x) (j : Nat) (hj : i.toNatClampNeg = j) (kk : ∀ M', rp_ g M' (uf_ S.1 n j x, S.2) → jj_ l y cc nL ret G R A Q mc ms (pc + 1) lv st M') : jj_ l y cc nL ret G R A Q mc ms pc lv (.int x :: .int i :: .ref (g n) :: st) M := by
  subst hj
  exact jj_zast hd (hS.1.1 n _ hn) hin hz (kk _ (rp_si hS hn))
theorem jj_ti {x x' : Int32} (h : x = x') (k : jj_ l y cc nL ret G R A Q mc ms pc lv (.int x' :: st) M) : jj_ l y cc nL ret G R A Q mc ms pc lv (.int x :: st) M := by
  rw [h]
  exact k
end JS
