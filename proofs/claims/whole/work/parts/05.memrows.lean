def mm_Fl (own : String) (idx ci k : Nat) : Prop :=
  ci < 8 ∧ k < nn_N ci ∧ (Cond.fieldLink own idx (nn_T ci k).1 (nn_T ci k).2.1 (nn_T ci k).2.2.1 ∈ nn_TS ∨ ∃ host, Cond.fieldLinkNest own idx (nn_T ci k).1 (nn_T ci k).2.1 (nn_T ci k).2.2.1 host ∈ nn_NS)
def mm_Ff (own : String) (idx ci k : Nat) : Prop :=
  ci < 8 ∧ k < nn_N ci ∧ Cond.fieldLink own idx (nn_T ci k).1 (nn_T ci k).2.1 (nn_T ci k).2.2.1 ∈ nn_TS ∧ (nn_T ci k).2.2.2 = true ∧ (nn_T ci k).1 = own
theorem mm_e_si {G : mm_G} {M : mm_M} {a b k : Nat} {x : Int32} (hb : b ≠ a) (u : mm_K) : mm_e G (mm_si M a k x) b u = mm_e G M b u := by
  have f1 : mm_i (mm_si M a k x) b = mm_i M b := funext fun j => by rw [mm_i_si, if_neg (fun h => hb h.1)]
  cases u with
  | inl ci =>
    show Sum.inr (ci, mm_fs (mm_si M a k x) b ci) = Sum.inr (ci, mm_fs M b ci)
    have : mm_fs (mm_si M a k x) b ci = mm_fs M b ci := by
      unfold mm_fs mm_fv
      rw [f1]
      rfl
    rw [this]
  | inr q =>
    show Sum.inl (G.2.1 q.1, mm_ac (mm_si M a k x) b q.1 q.2) = Sum.inl (G.2.1 q.1, mm_ac M b q.1 q.2)
    have : mm_ac (mm_si M a k x) b q.1 q.2 = mm_ac M b q.1 q.2 := by
      unfold mm_ac
      rw [f1]
      rfl
    rw [this]
theorem mm_e_sr {G : mm_G} {M : mm_M} {a b k : Nat} {x : Option Nat} (hb : b ≠ a) (u : mm_K) : mm_e G (mm_sr M a k x) b u = mm_e G M b u := by
  have f1 : mm_r (mm_sr M a k x) b = mm_r M b := funext fun j => by rw [mm_r_sr, if_neg (fun h => hb h.1)]
  cases u with
  | inl ci =>
    show Sum.inr (ci, mm_fs (mm_sr M a k x) b ci) = Sum.inr (ci, mm_fs M b ci)
    have : mm_fs (mm_sr M a k x) b ci = mm_fs M b ci := by
      unfold mm_fs mm_fv
      rw [f1]
      rfl
    rw [this]
  | inr q =>
    show Sum.inl (G.2.1 q.1, mm_ac (mm_sr M a k x) b q.1 q.2) = Sum.inl (G.2.1 q.1, mm_ac M b q.1 q.2)
    have : mm_ac (mm_sr M a k x) b q.1 q.2 = mm_ac M b q.1 q.2 := by
      unfold mm_ac
      rw [f1]
      rfl
    rw [this]
section JM
variable {l : Launch} {y : MethodName} {cc : ByteArray} {nL : Nat} {ret : Option FieldType} {G : mm_G} {R : Room} {A : Nat → Prop} {Q : mm_O → mm_M → Prop} {mc ms pc : Nat} {lv : List (Nat × Value)} {st : List Value} {M : mm_M}
theorem jj_get {a ci idx k : Nat} {v : Value} (hd : decode cc pc = .ok (.getfield idx, 3)) (hf : mm_Fl y.cls idx ci k) (hk : mm_k M a = some (.inl ci)) (hv : mm_fv M a (nn_t ci k) k = v) (kk : jj_ l y cc nL ret G R A Q mc ms (pc + 3) lv (v :: st) M) : jj_ l y cc nL ret G R A Q mc ms pc lv (.ref a :: st) M := by
  obtain ⟨h8, hkN, hw⟩ := hf
  intro p e s m args below meth c H locs cells slots ls hE hH hl hL hr
  have w := kk p e s m args below meth c H locs cells slots ls hE hH hl hL hr
  obtain ⟨hx, hb, hml, hown, hts, hK, -⟩ := hE
  have hvv : (mm_fs M a ci)[k]? = some v := by rw [mm_fsG hkN, hv]
  rcases hw with hw | ⟨host, hw⟩
  · exact va_get hx hb hts (nn_lay ci h8) hown hK.1 (hH.get hk) 0 rfl (mm_cl_at h8) k hkN (hts _ hw) (fun x h => h) hvv hd w
  · exact va_getN hx hb hts (nn_lay ci h8) hown hK.1 (hH.get hk) 0 rfl (mm_cl_at h8) k hkN (va_Nw.use rfl (hK.2.1 _ hw)) (fun x h => h) hvv hd w
theorem jj_geti {a ci idx k : Nat} (hd : decode cc pc = .ok (.getfield idx, 3)) (hf : mm_Fl y.cls idx ci k) (hk : mm_k M a = some (.inl ci)) (hv : ∀ M' : mm_M, mm_fv M' a (nn_t ci k) k = .int (mm_i M' a k)) (kk : jj_ l y cc nL ret G R A Q mc ms (pc + 3) lv (.int (mm_i M a k) :: st) M) : jj_ l y cc nL ret G R A Q mc ms pc lv (.ref a :: st) M :=
  jj_get hd hf hk (hv M) kk
theorem jj_getr {a ci idx k : Nat} (hd : decode cc pc = .ok (.getfield idx, 3)) (hf : mm_Fl y.cls idx ci k) (hk : mm_k M a = some (.inl ci)) (hv : ∀ M' : mm_M, mm_fv M' a (nn_t ci k) k = va_rf (mm_r M' a k)) (r : Option Nat) (hr : mm_r M a k = r) (kk : jj_ l y cc nL ret G R A Q mc ms (pc + 3) lv (va_rf r :: st) M) : jj_ l y cc nL ret G R A Q mc ms pc lv (.ref a :: st) M :=
  jj_get hd hf hk (by rw [hv M, hr]) kk
theorem jj_put0 {a ci idx k : Nat} {v : Value} {M' : mm_M} (hd : decode cc pc = .ok (.putfield idx, 3))
    (hf : (mm_Fl y.cls idx ci k ∧ (nn_T ci k).2.2.2 = false) ∨ (mm_Ff y.cls idx ci k ∧ y.name = "<init>")) (hk : mm_k M a = some (.inl ci)) (hn : narrow (nn_t ci k) v = v) (hfit : fits (nn_t ci k) v = true)
    (hw : ∀ b, mm_k M' b = mm_k M b) (ho : ∀ b, b ≠ a → ∀ u, mm_e G M' b u = mm_e G M b u) (hs : mm_fv M' a (nn_t ci k) k = v) (hj : ∀ j, j ≠ k → mm_fv M' a (nn_t ci j) j = mm_fv M a (nn_t ci j) j)
    (kk : jj_ l y cc nL ret G R A Q mc ms (pc + 3) lv st M') : jj_ l y cc nL ret G R A Q mc ms pc lv (v :: .ref a :: st) M := by
  have h8 : ci < 8 := by rcases hf with ⟨h, -⟩ | ⟨h, -⟩ <;> exact h.1
  have hkN : k < nn_N ci := by rcases hf with ⟨h, -⟩ | ⟨h, -⟩ <;> exact h.2.1
  intro p e s m args below meth c H locs cells slots ls hE hH hl hL hr
  have hE0 := hE
  obtain ⟨hx, hb, hml, hown, hts, hK, hret, hlk, hnm, hnd, hA⟩ := hE
  have hc := mm_cl_at h8
  have hap := va_apart (own := y.cls) hts (nn_lay ci h8) (nn_t ci) (nn_tok ci h8) (nn_nm ci h8) hK.1 hc
  have hat := hH.1 a _ hk
  obtain ⟨r, h1, cell, q1, q2, q3, q4⟩ := hat
  have hre : r = (nn_C ci, nn_T ci, nn_N ci) := Option.some.inj (h1.symm.trans hc)
  subst hre
  obtain ⟨hS, hfc, kC, hkC, hkind⟩ := hK.1.1 ci _ hc
  obtain ⟨cf, kf, fi, f, hi, hsl⟩ := hS k hkN
  have hst := (u_facts hfc hkC (u_lays hts (nn_lay ci h8) hkN) hi).1
  have hlt : f.slot < cell.slots.size := by rw [hsl]; exact k2_hasslot (q4 k hkN)
  have fin : ∀ H' : Heap, H'[a]? = some (cell.setSlot f.slot v) → H'.size = H.size → (∀ q, q ≠ a → H'[q]? = H[q]?) → W p l e R s m args below meth c H' (locs ++ [⟨a, f.slot⟩]) cells slots (mm_X below (mm_Q G Q A) args s R.cells R.slots A) (F0 m (pc + 3) ls st) := by
    intro H' e1 e2 e3
    rw [hsl] at e1
    refine kk p e s m args below meth c H' _ cells slots ls hE0 ?_ hl ⟨?_, fun q hq => ?_, by rw [e2]; exact hL.2.2⟩ hr
    · refine hH.put hk hw ho ⟨_, hc, t_OB.to (V := updV (vp_V (mm_fs M a ci)) k v) ⟨_, e1, q2, q3, t_set q4 hap hkN v⟩ (fun j hjN => ?_)⟩ e3
      show (if j = k then v else vp_V (mm_fs M a ci) j) = vp_V (mm_fs M' a ci) j
      rw [mm_fsV hjN, mm_fsV hjN]
      by_cases ej : j = k
      · subst ej
        rw [if_pos rfl, hs]
      · rw [if_neg ej, hj j ej]
    · intro q hq
      rcases List.mem_append.mp hq with h2 | h2
      · exact hL.1 q h2
      · rw [List.mem_singleton.mp h2]
        exact hL.2.1 a ⟨_, hk, rfl⟩
    · obtain ⟨t, ht, hro⟩ := hq
      exact hL.2.1 q ⟨t, by rw [← hw]; exact ht, hro⟩
  rcases hf with ⟨⟨-, -, hlk2⟩, hfin⟩ | ⟨⟨-, -, hlk2, hfin, hdecl⟩, hinit⟩
  · have hlay := hts _ (nn_lay ci h8 _ (u_in_lay hkN))
    unfold u_lay at hlay
    rw [if_neg (by rw [hfin]; decide)] at hlay
    have h6 := u_store hfc hkC hkind hlay hi (nn_tok ci h8 k hkN) hn hfit
    rcases hlk2 with hlk2 | ⟨host, hlk2⟩
    · exact W.putK hx hb (f := f) ⟨hown, hts _ hlk2, ⟨_, _, _, hi⟩, hst⟩ (by rw [q2]; exact h6) q1 q3 hlt rfl rfl hd fin
    · exact va_WputK hx hb (f := f) hown (va_Nw.use rfl (hK.2.1 _ hlk2)) hi hst (by rw [q2]; exact h6) q1 q3 hlt rfl rfl hd fin
  · have hlay := hts _ (nn_lay ci h8 _ (u_in_lay hkN))
    unfold u_lay at hlay
    rw [if_pos hfin] at hlay
    have hcf : m.cls = cf := by
      obtain ⟨_, _, c', _, _, _, -, -, hf', -, -, -, hown2, -⟩ := Cond.laysFinal_spec hlay
      have e1 : c' = cf := by have := hi.symm.trans hf'; simp at this; exact this.1.symm
      rw [hdecl] at hown2
      rw [← e1]; exact Option.some.inj (hown.symm.trans hown2)
    have h6 := u_fits hfc hkC hkind (Or.inr hlay) hi (nn_tok ci h8 k hkN) hn hfit
    exact W.putFinK hx hb hown (hts _ hlk2) hi hst hcf (hnm.trans hinit) (by rw [q2]; exact h6) q1 q3 hlt rfl rfl hd fin
theorem jj_puti {a ci idx k : Nat} {x : Int32} (hd : decode cc pc = .ok (.putfield idx, 3)) (hf : (mm_Fl y.cls idx ci k ∧ (nn_T ci k).2.2.2 = false) ∨ (mm_Ff y.cls idx ci k ∧ y.name = "<init>")) (hk : mm_k M a = some (.inl ci))
    (hv : ∀ M' : mm_M, mm_fv M' a (nn_t ci k) k = .int (mm_i M' a k)) (hn : narrow (nn_t ci k) (.int x) = .int x ∧ fits (nn_t ci k) (.int x) = true)
    (kk : jj_ l y cc nL ret G R A Q mc ms (pc + 3) lv st (mm_si M a k x)) : jj_ l y cc nL ret G R A Q mc ms pc lv (.int x :: .ref a :: st) M := by
  refine jj_put0 (M' := mm_si M a k x) hd hf hk hn.1 hn.2 (fun _ => rfl) (fun b hb u => mm_e_si hb u) ?_ (fun j hj => ?_) kk
  · rw [hv, mm_i_si, if_pos ⟨rfl, rfl⟩]
  · have e1 : mm_i (mm_si M a k x) a j = mm_i M a j := by rw [mm_i_si, if_neg (fun h => hj h.2)]
    unfold mm_fv
    rw [e1]
    rfl
theorem jj_putr {a ci idx k : Nat} (r : Option Nat) (hd : decode cc pc = .ok (.putfield idx, 3)) (hf : (mm_Fl y.cls idx ci k ∧ (nn_T ci k).2.2.2 = false) ∨ (mm_Ff y.cls idx ci k ∧ y.name = "<init>")) (hk : mm_k M a = some (.inl ci))
    (hv : ∀ M' : mm_M, mm_fv M' a (nn_t ci k) k = va_rf (mm_r M' a k)) (hn : ∀ x, narrow (nn_t ci k) (va_rf x) = va_rf x ∧ fits (nn_t ci k) (va_rf x) = true)
    (kk : jj_ l y cc nL ret G R A Q mc ms (pc + 3) lv st (mm_sr M a k r)) : jj_ l y cc nL ret G R A Q mc ms pc lv (va_rf r :: .ref a :: st) M := by
  refine jj_put0 (M' := mm_sr M a k r) hd hf hk (hn r).1 (hn r).2 (fun _ => rfl) (fun b hb u => mm_e_sr hb u) ?_ (fun j hj => ?_) kk
  · rw [hv, mm_r_sr, if_pos ⟨rfl, rfl⟩]
  · have e1 : mm_r (mm_sr M a k r) a j = mm_r M a j := by rw [mm_r_sr, if_neg (fun h => hj h.2)]
    unfold mm_fv
    rw [e1]
    rfl
theorem jj_new {idx ci : Nat} (mc' ms' : Nat) (hd : decode cc pc = .ok (.new idx, 3)) (h8 : ci < 8) (hcl : Cond.classLink y.cls idx (nn_C ci) ∈ nn_TS) (hins : Cond.instantiable (nn_C ci) (nn_N ci) ∈ nn_TS) (hini : Cond.initialized (nn_C ci) ∈ nn_TS) (h1 : mc' + 1 ≤ mc) (h2 : ms' + nn_N ci ≤ ms)
    (kk : ∀ q, mm_k M q = none → jj_ l y cc nL ret G R A Q mc' ms' (pc + 3) lv (.ref q :: st) (mm_nw M q (.inl ci))) : jj_ l y cc nL ret G R A Q mc ms pc lv st M := by
  intro p e s m args below meth c H locs cells slots ls hE hH hl hL hr
  have hE0 := hE
  obtain ⟨hx, hb, hml, hown, hts, hK, hret, hlk, hnm, hnd, hA⟩ := hE
  obtain ⟨hr1, hr2⟩ := hr
  have hc := mm_cl_at h8
  have hKn := hK.1.1 ci _ hc
  refine W.newcK hx hb hown (hts _ hcl) (hts _ hins) (hts _ hini) rfl hd (by omega) (by omega) hKn.2.1 rfl fun H1 kC hkC e1 z1 o1 => ?_
  refine kk H.size (hH.fresh (Nat.le_refl _)) p e s m args below meth c H1 locs (cells + 1) (slots + nn_N ci) ls hE0 (hH.new ?_ o1) hl ⟨hL.1, fun q hq => ?_, by rw [z1]; have := hL.2.2; omega⟩ ⟨by omega, by omega⟩
  · refine ⟨_, hc, (u_born (nn_t ci) hts (nn_lay ci h8) hKn hkC e1 (nn_tok ci h8)).to (fun j hj => ?_)⟩
    rw [mm_fsV hj]
    exact mm_fv_nw (nn_tyok ci h8 j hj)
  · obtain ⟨t, ht, hro⟩ := hq
    rw [mm_k_nw] at ht
    by_cases eq : q = H.size
    · exact hA q (by have := hL.2.2; omega)
    · rw [if_neg eq] at ht
      exact hL.2.1 q ⟨t, ht, hro⟩
end JM
