def sk_ (G : mm_G) (b L : Nat) (xs : Nat → Int32) : Prop := G.2.2.2.1 = b ∧ G.2.2.2.2.vm ≠ .unknown ∧ G.2.2.2.2.slots.size = L ∧ ∀ j, j < L → G.2.2.2.2.slots[j]? = some (.int (xs j))
section FZ
variable {l : Launch} {y : MethodName} {cc : ByteArray} {nL : Nat} {ret : Option FieldType} {G : mm_G} {R : Room} {A : Nat → Prop} {Q : mm_O → mm_M → Prop} {mc ms pc : Nat} {lv : List (Nat × Value)} {st : List Value} {M : mm_M}
theorem jj_sald {b n : Nat} {f : Nat → Int32} {i : Int32} (hG : sk_ G b n f) (hd : decode cc pc = .ok (.iaload, 1)) (hin : vp_in i n) (k : Nat) (hk : i.toNatClampNeg = k) (kk : jj_ l y cc nL ret G R A Q mc ms (pc + 1) lv (.int (f k) :: st) M) : jj_ l y cc nL ret G R A Q mc ms pc lv (.int i :: .ref b :: st) M := by
  subst hk
  intro p e s m args below meth c H locs cells slots ls hE hH hl hL hr
  have w := kk p e s m args below meth c H locs cells slots ls hE hH hl hL hr
  obtain ⟨hx, hb, hml, hown, hts, hK, -⟩ := hE
  obtain ⟨g1, g2, g3, g4⟩ := hG
  have hcell : H[b]? = some G.2.2.2.2 := by
    have h := hH.2.2.1
    rw [g1] at h
    exact h
  have hlt : i.toNatClampNeg < n := Nat.lt_of_not_le (fun h => hin (Or.inr h))
  exact W.iald hx hb hcell hK.2.2.2.1.2 g2 (by rw [g3]; exact hin) (g4 _ hlt) rfl rfl hd w
theorem jj_slen {b n : Nat} {f : Nat → Int32} (hG : sk_ G b n f) (hd : decode cc pc = .ok (.arraylength, 1)) (kk : jj_ l y cc nL ret G R A Q mc ms (pc + 1) lv (.int (nI n) :: st) M) : jj_ l y cc nL ret G R A Q mc ms pc lv (.ref b :: st) M := by
  intro p e s m args below meth c H locs cells slots ls hE hH hl hL hr
  have w := kk p e s m args below meth c H locs cells slots ls hE hH hl hL hr
  obtain ⟨hx, hb, hml, hown, hts, hK, -⟩ := hE
  obtain ⟨g1, g2, g3, g4⟩ := hG
  have hcell : H[b]? = some G.2.2.2.2 := by
    have h := hH.2.2.1
    rw [g1] at h
    exact h
  exact W.alen hx hb hcell hK.2.2.2.1.2 (by rw [g3]; rfl) rfl rfl hd w
end FZ
def cg_ (l : Launch) (y : MethodName) (cc : ByteArray) (nL : Nat) (ret : Option FieldType) (d mc ms : Nat) (G : mm_G) (vs : List Value) (M : mm_M) (Q : Option Value → mm_M → Prop) : Prop :=
  ∀ (sz : Nat), Met l y (.code y cc nL ret :: nn_TS) (mm_R d mc ms) (mm_Pc G M sz vs) (mm_Q G (mm_ret Q) (mm_A M sz)) mc ms (mm_A M sz)
theorem cg_of {l : Launch} {y : MethodName} {cc : ByteArray} {nL : Nat} {ret : Option FieldType} {d mc ms : Nat} {G : mm_G} {vs : List Value} {M : mm_M} {Q : Option Value → mm_M → Prop} (hy : plainName y.cls = true) (hn : (lg_sl vs).length ≤ nL)
    (h : ∀ (A : Nat → Prop), jj_ l y cc nL ret G (mm_R d mc ms) A (mm_ret Q) mc ms 0 (lv_args 0 vs) [] M) : cg_ l y cc nL ret d mc ms G vs M Q := by
  intro sz
  refine Met.ofW (cc := cc) (maxL := nL) (ret := ret) hy rfl ?_
  intro p e s m args below meth c s₁ B hml hv
  obtain ⟨rfl, hsz, hH, hK⟩ := hv
  subst hsz
  rw [lg_entry_eq]
  have hts := atoms_spec (ws := .code y cc nL ret :: nn_TS) B.pre
  have k := h (mm_A M s.heap.size) p e s m vs.toArray below meth c s.heap [] 0 0 _
    ⟨B.exec, B.bytes, hml, findClass_of_methodNamed B.named, fun w hw => hts w (List.mem_cons_of_mem _ hw), hK, B.returns, B.notSynchronized, (name_of_methodNamed B.named B.method).1, B.named, fun q hq => Or.inr hq⟩
    hH (lv_entry vs hn) ⟨(fun q hq => by cases hq), (fun q hq => Or.inl hq), Nat.le_refl _⟩ ⟨Nat.le_of_eq (Nat.zero_add _), Nat.le_of_eq (Nat.zero_add _)⟩
  refine mm_mono (fun t ht => ?_) k
  obtain ⟨o, h1, h2, ⟨oo, M', h3, h4, h5⟩, L, h6, h7⟩ := ht
  cases oo with
  | inr q => exact h4.elim
  | inl v => exact ⟨o, h1, h2, ⟨.inl v, M', h3, h4, h5⟩, L, ⟨⟨v, h3⟩, h6⟩, h7⟩
section CG
variable {l : Launch} {y : MethodName} {cc : ByteArray} {nL : Nat} {ret : Option FieldType} {G : mm_G} {R : Room} {A : Nat → Prop} {Q : mm_O → mm_M → Prop} {mc ms pc : Nat} {lv : List (Nat × Value)} {st : List Value} {M : mm_M}
theorem jj_callG {z : MethodName} {zc : ByteArray} {znL : Nat} {zret : Option FieldType} {d mc' ms' n idx : Nat} (As rest : List Value) (mcr msr : Nat) (hd : decode cc pc = .ok (.invokestatic idx, 3)) (hc : mm_Cs y.cls idx z zc znL zret n) (hi : Cond.static z ∈ nn_TS)
    (hn : As.length = n) (hcat : (rest.map fun v => v.category).sum ≤ 8) (hR : d + 1 ≤ R.frames ∧ 8 + (znL + 11) + 34 * d ≤ R.locals) (h12 : mc' + mcr ≤ mc ∧ ms' + msr ≤ ms) (hst : st = As.reverse ++ rest)
    (hM : cg_ l z zc znL zret d mc' ms' G As M (fun v M' => jj_ l y cc nL ret G R A Q mcr msr (pc + 3) lv (v.toList ++ rest) M')) : jj_ l y cc nL ret G R A Q mc ms pc lv st M := by
  subst hst
  obtain ⟨hcode, hini, hdd, hlnk⟩ := hc
  intro p e s m args below meth c H locs cells slots ls hE hH hl hL hr
  have hE0 := hE
  obtain ⟨hx, hb, hml, hown, hts, hK, -⟩ := hE
  obtain ⟨hr1, hr2⟩ := hr
  rcases hlnk with hlnk | ⟨host, hlnk⟩
  · exact mm_after (va_runS (As := As) (rest := rest) ⟨hx, hb, hml, hown, hts⟩ (hM H.size) ⟨callB_of n hts (nn_GJ hcode) rfl rfl rfl (hts _ hini) (hts _ hlnk) hdd hR, hts _ hi⟩ (mm_pre hH hK) rfl hn hl.1 rfl (lv_room hcat) hd ⟨by omega, by omega⟩) hE0 hl hL (by omega) (by omega)
  · exact mm_after (va_runSN (As := As) (rest := rest) ⟨hx, hb, hml, hown, hts⟩ (hM H.size) ⟨va_cnB n hts (nn_GJ hcode) rfl rfl rfl (hK.2.1 _ hlnk) (hts _ hini) hdd hR, hts _ hi, trivial⟩ (mm_pre hH hK) rfl hn hl.1 rfl (lv_room hcat) hd ⟨by omega, by omega⟩) hE0 hl hL (by omega) (by omega)
end CG
theorem cg_La_cell {l : Launch} {G : mm_G} {M : mm_M} {Q : Option Value → mm_M → Prop} {b n : Nat} {f : Nat → Int32} (hG : sk_ G b n f) (hn : n < 2 ^ 31) (hQ : Q (some (.int (if 0 < n then f 0 else 0))) M) : cg_ l yy_La_cell bb_La_cell 2 (some .int) 1 0 0 G [.ref b, .int 0] M Q := by
  refine cg_of (by decide) (Nat.le_of_ble_eq_true rfl) (fun A => ?_)
  refine jj_iload_n 1 dd_La_cell_0 rfl ?_
  refine jj_aload_n 0 dd_La_cell_1 rfl ?_
  refine jj_slen hG dd_La_cell_2 ?_
  refine jj_icmp_ge (tgt := 12) dd_La_cell_3 (by decide) (fun h => ?_) (fun h => ?_)
  · have h0 : ¬ 0 < n := fun h0 => absurd h (nI_nle h0 hn)
    refine jj_iconst (v := 0) dd_La_cell_12 rfl ?_
    refine jj_iret dd_La_cell_13 rfl rfl ?_
    rw [if_neg h0] at hQ
    exact hQ
  · have h0 : 0 < n := by
      rcases Nat.eq_zero_or_pos n with e | e
      · rw [e] at h; exact absurd (by decide) h
      · exact e
    refine jj_aload_n 0 dd_La_cell_6 rfl ?_
    refine jj_iload_n 1 dd_La_cell_7 rfl ?_
    refine jj_sald hG dd_La_cell_8 (vp_in_nI (n := 0) h0 hn) 0 rfl ?_
    refine jj_goto (tgt := 13) dd_La_cell_9 (by decide) ?_
    refine jj_iret dd_La_cell_13 rfl rfl ?_
    rw [if_pos h0] at hQ
    exact hQ
set_option maxRecDepth 20000 in
theorem cs_Mo_stepC {l : Launch} {g : Nat → Nat} {S : ss_} {Q : Option Value → ss_ → Prop} {c : Nat} {F : Nat → Nat → Int32} (hF : uf_ S.1 60 1 0 = F) (hc : c < 4) (h83 : F 83 c = 0) (hQ : Q (some (.int 0)) (uf_ F 60 1 2, S.2)) : cs_ l yy_Mo_step bb_Mo_step 3 (some .int) 4 0 0 g [.ref (g 60), .int (nI c)] S Q := by
  intro M hS
  refine ct_of (by decide) (Nat.le_of_ble_eq_true rfl) (fun G A => ?_)
  refine jj_aload_n 0 dd_Mo_step_0 rfl ?_
  refine jj_iconst (v := 0) dd_Mo_step_1 rfl ?_
  refine jj_pS hS dd_Mo_step_2 ⟨ff_Mo_93, rfl⟩ rfl (fun _ => rfl) ⟨rfl, rfl⟩ (fun M hS => ?_)
  rw [hF] at hS
  refine jj_aload_n 0 dd_Mo_step_5 rfl ?_
  refine jj_iload_n 1 dd_Mo_step_6 rfl ?_
  refine jj_callV (ci := 7) [_] [] 0 0 dd_Mo_step_7 cs_Mo_131 ci_Mo_131 (hS.1.1 60 _ rfl) ⟨by decide, rfl⟩ rfl (Nat.le_of_ble_eq_true rfl) ⟨(Nat.le_of_ble_eq_true rfl), (Nat.le_of_ble_eq_true rfl)⟩ ⟨(Nat.le_of_ble_eq_true rfl), (Nat.le_of_ble_eq_true rfl)⟩ rfl (ct_Mo_isClient (fun hb => ?_) (fun hb hb2 => ?_))
  · skip
    exact absurd hb (nc_ (n := 3) (by decide) (by omega) (by decide))
  · skip
    refine jj_if_ne (tgt := 19) dd_Mo_step_10 (by decide) (fun _ => ?_) (fun h => absurd h (by decide))
    refine jj_aload_n 0 dd_Mo_step_19 rfl ?_
    refine jj_rS (n := 83) hS dd_Mo_step_20 ff_Mo_66 rfl (fun _ => rfl) rfl ?_
    refine jj_iload_n 1 dd_Mo_step_23 rfl ?_
    refine jj_aS hS dd_Mo_step_24 rfl (vp_in_nI (n := c) (by omega) (by decide)) (c) (nI_clamp (n := c) (by omega)) ?_
    refine jj_if_ne (tgt := 34) dd_Mo_step_25 (by decide) (fun h25 => ?_) (fun h25 => ?_)
    · exact absurd h83 h25
    · skip
      refine jj_aload_n 0 dd_Mo_step_28 rfl ?_
      refine jj_iconst (v := 2) dd_Mo_step_29 rfl ?_
      refine jj_callV (ci := 7) [_] [] 0 0 dd_Mo_step_30 cs_Mo_134 ci_Mo_134 (hS.1.1 60 _ rfl) ⟨by decide, rfl⟩ rfl (Nat.le_of_ble_eq_true rfl) ⟨(Nat.le_of_ble_eq_true rfl), (Nat.le_of_ble_eq_true rfl)⟩ ⟨(Nat.le_of_ble_eq_true rfl), (Nat.le_of_ble_eq_true rfl)⟩ rfl (cs_use (cs_Mo_fails (fun M hS => ?_)) hS)
      refine jj_iret dd_Mo_step_33 rfl rfl ?_
      exact ⟨_, hS, hQ⟩
