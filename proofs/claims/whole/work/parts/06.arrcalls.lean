section JA
variable {l : Launch} {y : MethodName} {cc : ByteArray} {nL : Nat} {ret : Option FieldType} {G : mm_G} {R : Room} {A : Nat → Prop} {Q : mm_O → mm_M → Prop} {mc ms pc : Nat} {lv : List (Nat × Value)} {st : List Value} {M : mm_M}
theorem mm_at0 {G : mm_G} {M : mm_M} {H : Heap} (h : mm_H G M H) {a ai n : Nat} (hk : mm_k M a = some (.inr (ai, n))) (hi : mm_ac M a ai n = (n, .inl (mm_i M a))) : H[a]? = some (vp_cell (G.2.1 ai) (n, .inl (mm_i M a))) := by
  have h1 := h.1 a _ hk
  have h2 : H[a]? = some (vp_cell (G.2.1 ai) (mm_ac M a ai n)) := h1
  rw [hi] at h2
  exact h2
theorem mm_atr {G : mm_G} {M : mm_M} {H : Heap} (h : mm_H G M H) {a ai n : Nat} (hk : mm_k M a = some (.inr (ai, n))) (hi : mm_ac M a ai n = (n, .inr (.inr (.inr (.inr (mm_r M a)))))) : H[a]? = some (vp_cell (G.2.1 ai) (n, .inr (.inr (.inr (.inr (mm_r M a)))))) := by
  have h1 := h.1 a _ hk
  have h2 : H[a]? = some (vp_cell (G.2.1 ai) (mm_ac M a ai n)) := h1
  rw [hi] at h2
  exact h2
theorem mm_atl {G : mm_G} {M : mm_M} {H : Heap} (h : mm_H G M H) {a n : Nat} (hk : mm_k M a = some (.inr (2, n))) : H[a]? = some (vp_cell (G.2.1 2) (n, .inr (.inl (fun j => (mm_i M a j).toInt64)))) := h.1 a _ hk
theorem jj_iald {a ai n : Nat} {i : Int32} (hd : decode cc pc = .ok (.iaload, 1)) (hk : mm_k M a = some (.inr (ai, n))) (h0 : ai = 0 ∨ ai = 6) (hin : vp_in i n) (kk : jj_ l y cc nL ret G R A Q mc ms (pc + 1) lv (.int (mm_i M a i.toNatClampNeg) :: st) M) : jj_ l y cc nL ret G R A Q mc ms pc lv (.int i :: .ref a :: st) M := by
  intro p e s m args below meth c H locs cells slots ls hE hH hl hL hr
  have w := kk p e s m args below meth c H locs cells slots ls hE hH hl hL hr
  obtain ⟨hx, hb, hml, hown, hts, hK, -⟩ := hE
  rcases h0 with rfl | rfl
  · exact va_iald hx hb hK.1 (hH.get hk) 0 0 rfl (mm_tys_at G (by omega)) hin hd w
  · exact va_iald hx hb hK.1 (hH.get hk) 0 6 rfl (mm_tys_at G (by omega)) hin hd w
theorem jj_zald {a n : Nat} {i : Int32} (hd : decode cc pc = .ok (.baload, 1)) (hk : mm_k M a = some (.inr (1, n))) (hin : vp_in i n) (kk : jj_ l y cc nL ret G R A Q mc ms (pc + 1) lv (.int (mm_i M a i.toNatClampNeg) :: st) M) : jj_ l y cc nL ret G R A Q mc ms pc lv (.int i :: .ref a :: st) M := by
  intro p e s m args below meth c H locs cells slots ls hE hH hl hL hr
  have w := kk p e s m args below meth c H locs cells slots ls hE hH hl hL hr
  obtain ⟨hx, hb, hml, hown, hts, hK, -⟩ := hE
  exact va_zald hx hb hK.1 (hH.get hk) 0 1 rfl (mm_tys_at G (by omega)) hin hd w
theorem jj_lald {a n : Nat} {i : Int32} (hd : decode cc pc = .ok (.laload, 1)) (hk : mm_k M a = some (.inr (2, n))) (hin : vp_in i n) (kk : jj_ l y cc nL ret G R A Q mc ms (pc + 1) lv (.long (mm_i M a i.toNatClampNeg).toInt64 :: st) M) : jj_ l y cc nL ret G R A Q mc ms pc lv (.int i :: .ref a :: st) M := by
  intro p e s m args below meth c H locs cells slots ls hE hH hl hL hr
  have w := kk p e s m args below meth c H locs cells slots ls hE hH hl hL hr
  obtain ⟨hx, hb, hml, hown, hts, hK, -⟩ := hE
  exact va_lald hx hb hK.1 (hH.get hk) 0 2 rfl (mm_tys_at G (by omega)) hin hd w
theorem jj_aald {a ai n : Nat} {i : Int32} (hd : decode cc pc = .ok (.aaload, 1)) (hk : mm_k M a = some (.inr (ai, n))) (h0 : ai = 3 ∨ ai = 4 ∨ ai = 5) (hin : vp_in i n) (r : Option Nat) (hr0 : mm_r M a i.toNatClampNeg = r) (kk : jj_ l y cc nL ret G R A Q mc ms (pc + 1) lv (va_rf r :: st) M) : jj_ l y cc nL ret G R A Q mc ms pc lv (.int i :: .ref a :: st) M := by
  subst hr0
  intro p e s m args below meth c H locs cells slots ls hE hH hl hL hr
  have w := kk p e s m args below meth c H locs cells slots ls hE hH hl hL hr
  obtain ⟨hx, hb, hml, hown, hts, hK, -⟩ := hE
  rcases h0 with rfl | rfl | rfl
  · exact va_aldq hx hb hK.1 (hH.get hk) 0 3 rfl (mm_tys_at G (by omega)) hin hd w
  · exact va_aldq hx hb hK.1 (hH.get hk) 0 4 rfl (mm_tys_at G (by omega)) hin hd w
  · exact va_aldq hx hb hK.1 (hH.get hk) 0 5 rfl (mm_tys_at G (by omega)) hin hd w
theorem jj_alen {a ai n : Nat} {v : Int32} (hd : decode cc pc = .ok (.arraylength, 1)) (hk : mm_k M a = some (.inr (ai, n))) (h7 : ai < 7) (hv : Int32.ofNat n = v) (kk : jj_ l y cc nL ret G R A Q mc ms (pc + 1) lv (.int v :: st) M) : jj_ l y cc nL ret G R A Q mc ms pc lv (.ref a :: st) M := by
  intro p e s m args below meth c H locs cells slots ls hE hH hl hL hr
  have w := kk p e s m args below meth c H locs cells slots ls hE hH hl hL hr
  obtain ⟨hx, hb, hml, hown, hts, hK, -⟩ := hE
  have hn : (mm_ac M a ai n).1 = n := by
    unfold mm_ac
    split <;> rfl
  exact va_alen hx hb hK.1 (hH.get hk) 0 ai rfl (mm_tys_at G h7) (by rw [hn]; exact hv) hd w
theorem jj_iast {a n : Nat} {i x : Int32} (hd : decode cc pc = .ok (.iastore, 1)) (hk : mm_k M a = some (.inr (0, n))) (hin : vp_in i n) (kk : jj_ l y cc nL ret G R A Q mc ms (pc + 1) lv st (mm_si M a i.toNatClampNeg x)) : jj_ l y cc nL ret G R A Q mc ms pc lv (.int x :: .int i :: .ref a :: st) M := by
  intro p e s m args below meth c H locs cells slots ls hE hH hl hL hr
  have hE0 := hE
  obtain ⟨hx, hb, hml, hown, hts, hK, -⟩ := hE
  refine W.iast hx hb (mm_at0 hH hk rfl) ((hK.1.2 0 _ (mm_tys_at G (by omega))).1 n (fun j => .int (mm_i M a j))) (fun q => by cases q) (by show ¬ (i < 0 ∨ (arrV _ _ _).slots.size ≤ _); rw [arrV_size]; exact hin) rfl rfl hd fun H1 e1 z oq => ?_
  refine kk p e s m args below meth c H1 _ cells slots ls hE0 (hH.put hk (fun _ => rfl) (fun b hb u => mm_e_si hb u) ?_ oq) hl ⟨?_, fun q hq => hL.2.1 q hq, by rw [z]; exact hL.2.2⟩ hr
  · show H1[a]? = some (vp_cell _ _)
    rw [e1, vp_cell_i]
    show some _ = some (vp_cell _ (n, .inl (mm_i (mm_si M a i.toNatClampNeg x) a)))
    rw [vp_cell_i, arrV_store]
    congr 2
    funext q
    show (if q = i.toNatClampNeg then Value.int x else Value.int (mm_i M a q)) = Value.int (mm_i (mm_si M a i.toNatClampNeg x) a q)
    rw [mm_i_si]
    by_cases hq : q = i.toNatClampNeg
    · rw [if_pos hq, if_pos ⟨rfl, hq⟩]
    · rw [if_neg hq, if_neg (fun h => hq h.2)]
  · intro q hq
    rcases List.mem_append.mp hq with h2 | h2
    · exact hL.1 q h2
    · rw [List.mem_singleton.mp h2]
      exact hL.2.1 a ⟨_, hk, rfl⟩
theorem jj_zast {a n : Nat} {i x : Int32} (hd : decode cc pc = .ok (.bastore, 1)) (hk : mm_k M a = some (.inr (1, n))) (hin : vp_in i n) (hz : narrow .boolean (.int x) = .int x) (kk : jj_ l y cc nL ret G R A Q mc ms (pc + 1) lv st (mm_si M a i.toNatClampNeg x)) : jj_ l y cc nL ret G R A Q mc ms pc lv (.int x :: .int i :: .ref a :: st) M := by
  intro p e s m args below meth c H locs cells slots ls hE hH hl hL hr
  have hE0 := hE
  obtain ⟨hx, hb, hml, hown, hts, hK, -⟩ := hE
  refine W.zast hx hb (mm_at0 hH hk rfl) ((hK.1.2 1 _ (mm_tys_at G (by omega))).1 n (fun j => .int (mm_i M a j))) (fun q => by cases q) (by show ¬ (i < 0 ∨ (arrV _ _ _).slots.size ≤ _); rw [arrV_size]; exact hin) rfl rfl hd fun H1 e1 z oq => ?_
  rw [hz] at e1
  refine kk p e s m args below meth c H1 _ cells slots ls hE0 (hH.put hk (fun _ => rfl) (fun b hb u => mm_e_si hb u) ?_ oq) hl ⟨?_, fun q hq => hL.2.1 q hq, by rw [z]; exact hL.2.2⟩ hr
  · show H1[a]? = some (vp_cell _ _)
    rw [e1, vp_cell_i]
    show some _ = some (vp_cell _ (n, .inl (mm_i (mm_si M a i.toNatClampNeg x) a)))
    rw [vp_cell_i, arrV_store]
    congr 2
    funext q
    show (if q = i.toNatClampNeg then Value.int x else Value.int (mm_i M a q)) = Value.int (mm_i (mm_si M a i.toNatClampNeg x) a q)
    rw [mm_i_si]
    by_cases hq : q = i.toNatClampNeg
    · rw [if_pos hq, if_pos ⟨rfl, hq⟩]
    · rw [if_neg hq, if_neg (fun h => hq h.2)]
  · intro q hq
    rcases List.mem_append.mp hq with h2 | h2
    · exact hL.1 q h2
    · rw [List.mem_singleton.mp h2]
      exact hL.2.1 a ⟨_, hk, rfl⟩
theorem jj_last {a n : Nat} {i x : Int32} (hd : decode cc pc = .ok (.lastore, 1)) (hk : mm_k M a = some (.inr (2, n))) (hin : vp_in i n) (kk : jj_ l y cc nL ret G R A Q mc ms (pc + 1) lv st (mm_si M a i.toNatClampNeg x)) : jj_ l y cc nL ret G R A Q mc ms pc lv (.long x.toInt64 :: .int i :: .ref a :: st) M := by
  intro p e s m args below meth c H locs cells slots ls hE hH hl hL hr
  have hE0 := hE
  obtain ⟨hx, hb, hml, hown, hts, hK, -⟩ := hE
  refine W.last hx hb (mm_atl hH hk) ((hK.1.2 2 _ (mm_tys_at G (by omega))).1 n (fun j => .long (mm_i M a j).toInt64)) (fun q => by cases q) (by show ¬ (i < 0 ∨ (arrV _ _ _).slots.size ≤ _); rw [arrV_size]; exact hin) rfl rfl hd fun H1 e1 z oq => ?_
  refine kk p e s m args below meth c H1 _ cells slots ls hE0 (hH.put hk (fun _ => rfl) (fun b hb u => mm_e_si hb u) ?_ oq) hl ⟨?_, fun q hq => hL.2.1 q hq, by rw [z]; exact hL.2.2⟩ hr
  · show H1[a]? = some (vp_cell _ _)
    rw [e1, vp_cell_l]
    show some _ = some (vp_cell _ (n, .inr (.inl (fun j => (mm_i (mm_si M a i.toNatClampNeg x) a j).toInt64))))
    rw [vp_cell_l, arrV_store]
    congr 2
    funext q
    show (if q = i.toNatClampNeg then Value.long x.toInt64 else Value.long (mm_i M a q).toInt64) = Value.long (mm_i (mm_si M a i.toNatClampNeg x) a q).toInt64
    rw [mm_i_si]
    by_cases hq : q = i.toNatClampNeg
    · rw [if_pos hq, if_pos ⟨rfl, hq⟩]
    · rw [if_neg hq, if_neg (fun h => hq h.2)]
  · intro q hq
    rcases List.mem_append.mp hq with h2 | h2
    · exact hL.1 q h2
    · rw [List.mem_singleton.mp h2]
      exact hL.2.1 a ⟨_, hk, rfl⟩
theorem jj_aast {a ai ci n v : Nat} {i : Int32} (hd : decode cc pc = .ok (.aastore, 1)) (hk : mm_k M a = some (.inr (ai, n))) (h0 : ai = 3 ∨ ai = 4 ∨ ai = 5) (h8 : ci < 8) (hty : mm_ty ai = .object (nn_C ci)) (hkv : mm_k M v = some (.inl ci)) (hin : vp_in i n) (kk : jj_ l y cc nL ret G R A Q mc ms (pc + 1) lv st (mm_sr M a i.toNatClampNeg (some v))) : jj_ l y cc nL ret G R A Q mc ms pc lv (.ref v :: .int i :: .ref a :: st) M := by
  have hac : ∀ M' : mm_M, mm_ac M' a ai n = (n, .inr (.inr (.inr (.inr (mm_r M' a))))) := by
    intro M'
    rcases h0 with rfl | rfl | rfl <;> rfl
  have h7 : ai < 7 := by omega
  intro p e s m args below meth c H locs cells slots ls hE hH hl hL hr
  have hE0 := hE
  obtain ⟨hx, hb, hml, hown, hts, hK, -⟩ := hE
  have hlt : i.toNatClampNeg < n := Nat.not_le.mp fun q => hin (Or.inr q)
  have hi0 : ¬ i < 0 := fun q => hin (Or.inl q)
  obtain ⟨r', hr', cellV, g1, g2, g3, -⟩ := hH.1 v _ hkv
  have hcls := (hK.1.1 ci _ (mm_cl_at h8)).2
  have hRA := (hK.1.2 ai _ (mm_tys_at G h7)).2
  rw [hty] at hRA
  obtain ⟨kA, comp, k1, k2, k3, -⟩ := hRA
  have hcomp : comp = G.1.1 ci := Option.some.inj (k3.symm.trans hcls.1)
  subst hcomp
  obtain ⟨kC, hkC, -⟩ := hcls.2
  refine W.aast hx hb (mm_atr hH hk (hac M)) (fun q h => by cases h) (fun h => by cases h) k1 k2 rfl hkC ⟨hi0, by show _ < (arrV _ _ _).slots.size; rw [arrV_size]; exact hlt⟩ g1 (fun q h => by rw [g3] at h; cases h) (by rw [g2]; exact hkC) (by rw [g2]; exact va_assign hcls) rfl rfl hd fun H1 e1 z oq => ?_
  refine kk p e s m args below meth c H1 _ cells slots ls hE0 (hH.put hk (fun _ => rfl) (fun b hb u => mm_e_sr hb u) ?_ oq) hl ⟨?_, fun q hq => hL.2.1 q hq, by rw [z]; exact hL.2.2⟩ hr
  · show H1[a]? = some (vp_cell _ (mm_ac _ _ _ _))
    rw [hac, e1, vp_cell_q, vp_cell_q, arrV_store]
    congr 2
    funext q
    show (if q = i.toNatClampNeg then Value.ref v else va_rf (mm_r M a q)) = va_rf (mm_r (mm_sr M a i.toNatClampNeg (some v)) a q)
    rw [mm_r_sr]
    by_cases hq : q = i.toNatClampNeg
    · rw [if_pos hq, if_pos ⟨rfl, hq⟩]
      rfl
    · rw [if_neg hq, if_neg (fun h => hq h.2)]
  · intro q hq
    rcases List.mem_append.mp hq with h2 | h2
    · exact hL.1 q h2
    · rw [List.mem_singleton.mp h2]
      refine hL.2.1 a ⟨_, hk, ?_⟩
      rcases h0 with rfl | rfl | rfl <;> rfl
theorem jj_newa {atype : ArrayType} {ai N : Nat} {n : Int32} (mc' ms' : Nat) (hd : decode cc pc = .ok (.newarray atype, 2)) (h0 : ai = 0 ∨ ai = 1 ∨ ai = 2) (hty : newarray.typeOf atype = mm_ty ai) (hw : Cond.arrayClass (newarray.typeOf atype) ∈ nn_TS)
    (hn : ¬ n < 0) (hN : n.toNatClampNeg = N) (hbytes : N * componentBytes (newarray.typeOf atype) ≤ 536870912) (h1 : mc' + 1 ≤ mc) (h2 : ms' + N ≤ ms)
    (kk : ∀ q, mm_k M q = none → jj_ l y cc nL ret G R A Q mc' ms' (pc + 2) lv (.ref q :: st) (mm_nw M q (.inr (ai, N)))) : jj_ l y cc nL ret G R A Q mc ms pc lv (.int n :: st) M := by
  intro p e s m args below meth c H locs cells slots ls hE hH hl hL hr
  have hE0 := hE
  obtain ⟨hx, hb, hml, hown, hts, hK, hret, hlk, hnm, hnd, hA⟩ := hE
  obtain ⟨hr1, hr2⟩ := hr
  refine va_newaK hx hb (hts _ hw) rfl hd rfl hn hN hbytes (by omega) (by omega) rfl fun H1 cA e1 z1 o1 hAr hNm => ?_
  have hcA : cA = G.2.1 ai := by
    have h5 := (hK.1.2 ai _ (mm_tys_at G (by omega))).2
    rw [hty] at hNm
    have h6 : s.vm.findClass ("[" ++ (mm_ty ai).toString) = some (G.2.1 ai) := by
      rcases h0 with rfl | rfl | rfl <;> exact h5
    exact Option.some.inj (hNm.symm.trans h6)
  subst hcA
  refine kk H.size (hH.fresh (Nat.le_refl _)) p e s m args below meth c H1 locs (cells + 1) (slots + N) ls hE0 (hH.new ?_ o1) hl ⟨hL.1, fun q hq => ?_, by rw [z1]; have := hL.2.2; omega⟩ ⟨by omega, by omega⟩
  · show H1[H.size]? = some (vp_cell _ (mm_ac _ _ _ _))
    rw [e1, hty]
    have f1 : mm_i (mm_nw M H.size (.inr (ai, N))) H.size = fun _ => 0 := funext fun j => by rw [mm_i_nw, if_pos rfl]
    have f3 : (fun j => (mm_i (mm_nw M H.size (.inr (ai, N))) H.size j).toInt64) = fun _ => 0 := funext fun j => by rw [mm_i_nw, if_pos rfl]; rfl
    rcases h0 with rfl | rfl | rfl
    · show _ = some (vp_cell _ (N, .inl (mm_i (mm_nw M H.size (.inr (0, N))) H.size)))
      rw [f1]
      rfl
    · show _ = some (vp_cell _ (N, .inl (mm_i (mm_nw M H.size (.inr (1, N))) H.size)))
      rw [f1]
      rfl
    · show _ = some (vp_cell _ (N, .inr (.inl (fun j => (mm_i (mm_nw M H.size (.inr (2, N))) H.size j).toInt64))))
      rw [f3]
      rfl
  · obtain ⟨t, ht, hro⟩ := hq
    rw [mm_k_nw] at ht
    by_cases eq : q = H.size
    · exact hA q (by have := hL.2.2; omega)
    · rw [if_neg eq] at ht
      exact hL.2.1 q ⟨t, ht, hro⟩
theorem jj_anew {idx ai N : Nat} {C : String} {n : Int32} (mc' ms' : Nat) (hd : decode cc pc = .ok (.anewarray idx, 3)) (h0 : ai = 3 ∨ ai = 4 ∨ ai = 5) (hty : mm_ty ai = .object C) (hcl : Cond.classLink y.cls idx C ∈ nn_TS)
    (hn : ¬ n < 0) (hN : n.toNatClampNeg = N) (hbytes : N * 4 ≤ 536870912) (h1 : mc' + 1 ≤ mc) (h2 : ms' + N ≤ ms)
    (kk : ∀ q, mm_k M q = none → jj_ l y cc nL ret G R A Q mc' ms' (pc + 3) lv (.ref q :: st) (mm_nw M q (.inr (ai, N)))) : jj_ l y cc nL ret G R A Q mc ms pc lv (.int n :: st) M := by
  subst hN
  intro p e s m args below meth c H locs cells slots ls hE hH hl hL hr
  have hE0 := hE
  obtain ⟨hx, hb, hml, hown, hts, hK, hret, hlk, hnm, hnd, hA⟩ := hE
  obtain ⟨hr1, hr2⟩ := hr
  have hAO : va_AO C s := by
    rcases h0 with rfl | rfl | rfl
    · have hC : C = "TabletCommits$Tablet" := by cases hty; rfl
      rw [hC]; exact hK.2.2.1.1
    · have hC : C = "TabletCommits$Cell" := by cases hty; rfl
      rw [hC]; exact hK.2.2.1.2.1
    · have hC : C = "TabletCommits$Transaction" := by cases hty; rfl
      rw [hC]; exact hK.2.2.1.2.2
  refine W.anew hx hb hown (hts _ hcl) (va_AO.use hAO) rfl hd rfl hn hbytes (by omega) (by omega) fun cA kA comp f1 f2 f3 f4 => ?_
  generalize hH1 : H.push ({ cls := cA, slots := Array.replicate n.toNatClampNeg .null, vm := .none } : Cell) = H1
  have z1 : H1.size = H.size + 1 := by rw [← hH1, Array.size_push]
  have e1 : H1[H.size]? = some (arrV cA n.toNatClampNeg (fun _ => .null)) := by rw [← hH1, Array.getElem?_push_size, ← arrV_new]
  have o1 : ∀ q : Nat, q < H.size → H1[q]? = H[q]? := fun q hq => by rw [← hH1, Array.getElem?_push, if_neg (Nat.ne_of_lt hq)]
  have hcA : cA = G.2.1 ai := by
    have h5 := (hK.1.2 ai _ (mm_tys_at G (by omega))).2
    rw [hty] at h5
    obtain ⟨_, _, -, -, -, h6⟩ := h5
    exact Option.some.inj (f1.symm.trans h6)
  subst hcA
  refine kk H.size (hH.fresh (Nat.le_refl _)) p e s m args below meth c H1 locs (cells + 1) (slots + n.toNatClampNeg) ls hE0 (hH.new ?_ o1) hl ⟨hL.1, fun q hq => ?_, by rw [z1]; have := hL.2.2; omega⟩ ⟨by omega, by omega⟩
  · show H1[H.size]? = some (vp_cell _ (mm_ac _ _ _ _))
    rw [e1]
    have f5 : mm_r (mm_nw M H.size (.inr (ai, n.toNatClampNeg))) H.size = fun _ => none := funext fun j => by rw [mm_r_nw, if_pos rfl]
    rcases h0 with rfl | rfl | rfl
    · show _ = some (vp_cell _ (n.toNatClampNeg, .inr (.inr (.inr (.inr (mm_r (mm_nw M H.size (.inr (3, n.toNatClampNeg))) H.size))))))
      rw [f5]
      rfl
    · show _ = some (vp_cell _ (n.toNatClampNeg, .inr (.inr (.inr (.inr (mm_r (mm_nw M H.size (.inr (4, n.toNatClampNeg))) H.size))))))
      rw [f5]
      rfl
    · show _ = some (vp_cell _ (n.toNatClampNeg, .inr (.inr (.inr (.inr (mm_r (mm_nw M H.size (.inr (5, n.toNatClampNeg))) H.size))))))
      rw [f5]
      rfl
  · obtain ⟨t, ht, hro⟩ := hq
    rw [mm_k_nw] at ht
    by_cases eq : q = H.size
    · exact hA q (by have := hL.2.2; omega)
    · rw [if_neg eq] at ht
      exact hL.2.1 q ⟨t, ht, hro⟩
end JA
