def nn_XN : List String := ["java/lang/RuntimeException", "java/lang/Exception"]
theorem th_fit : ∀ n ∈ nn_XN, Bundle.fit n = true := by decide +kernel
theorem th_fitX : ∀ ei, ei < 4 → Bundle.fit (nn_X ei) = true := by decide +kernel
def th_ok (own : String) (ix ic is ei : Nat) (tx : String) : Prop :=
  ei < 4 ∧ Cond.classLink own ix (nn_X ei) ∈ nn_TS ∧ Cond.instantiable (nn_X ei) 6 ∈ nn_TS ∧ Cond.initialized (nn_X ei) ∈ nn_TS ∧ (own, is, tx) ∈ nn_SS ∧ ∀ a ∈ Bundle.ownAtoms own ic (nn_X ei) nn_XN, a ∈ nn_TS ∨ a ∈ nn_NS ∨ a ∈ nn_ZS
section TH
variable {l : Launch} {y : MethodName} {cc : ByteArray} {nL : Nat} {ret : Option FieldType} {G : mm_G} {R : Room} {A : Nat → Prop} {Q : mm_O → mm_M → Prop} {mc ms pc : Nat} {lv : List (Nat × Value)} {st : List Value} {M : mm_M}
theorem th_zargs {args : Array Value} {U : State} : ∀ w ∈ nn_ZS, w.before #[] U = true → w.before args U = true := by
  intro w hw h
  simp only [nn_ZS, List.mem_cons, List.not_mem_nil, or_false] at hw
  rcases hw with rfl | rfl | rfl | rfl <;> exact h
theorem jj_throw {ix ic is ei : Nat} {tx : String} (hfl : l.flags = pinnedFlags ++ [noTraceFlag]) (hd0 : decode cc pc = .ok (.new ix, 3)) (hd3 : decode cc (pc + 3) = .ok (.dup, 1)) (hd4 : decode cc (pc + 4) = .ok (.ldc is, 2)) (hd6 : decode cc (pc + 6) = .ok (.invokespecial ic, 3)) (hd9 : decode cc (pc + 9) = .ok (.athrow, 1))
    (hcode : Cond.code y cc nL ret ∈ nn_TS) (ho : th_ok y.cls ix ic is ei tx) (h1 : 1 ≤ mc ∧ 6 ≤ ms) (hf : 5 < R.frames) (hlo : (st.map fun v => v.category).sum + 82 ≤ R.locals)
    (hq : ∀ a, mm_k M a = none → Q (.inr (a, ei)) M) : jj_ l y cc nL ret G R A Q mc ms pc lv st M := by
  obtain ⟨h4, hcl, hins, hini, hss, hat⟩ := ho
  intro p e s m args below meth c H locs cells slots ls hE hH hl hL hr T hT X
  obtain ⟨hx, hb, hml, hown, hts, hK, hret, hlk, hnm, hnd, hA⟩ := hE
  obtain ⟨hr1, hr2⟩ := hr
  subst hT
  have htr : e.platform.stackTraces = false := Launch.traces_off hfl X.admits
  have X' := rb_stand X (by omega) (by omega)
  obtain ⟨meth', c', hm', hc', -, -, -, -, hex, -⟩ := Cond.code_spec hnd (hts _ hcode)
  cases X.method.symm.trans hm'
  cases X.code.symm.trans hc'
  have hout : ∀ (pc' : Nat), ∀ x ∈ c.exceptionTable.toList, covers x pc' = false := by
    intro pc' x hx'
    have : c.exceptionTable.toList = [] := by simpa using hex
    rw [this] at hx'
    cases hx'
  have hts' : ∀ w ∈ nn_TS, w.before args (rb_s s T) = true := fun w hw => word_at (U := rb_s s T) (show s.WarmedH (rb_s s T).vm from State.WarmedH.refl s) (nn_good hw) (hts w hw)
  have hown' : (rb_s s T).vm.findClass y.cls = some m.cls := hown
  have hK' : mm_Kn G (rb_s s T) := mm_Kn.same (u := s) rfl hK
  have hat' : ∀ a ∈ Bundle.ownAtoms y.cls ic (nn_X ei) nn_XN, a.before args (rb_s s T) = true := by
    intro a ha
    rcases hat a ha with h | h | h
    · exact hts' a h
    · have h2 := hK'.2.1 a h
      have hi := (List.mem_filter.mp h).2
      have hon : a.onTables = true := by
        cases a <;> first | (simp [nn_isN] at hi; done) | rfl
      exact va_Nw.use hon h2
    · exact th_zargs a h (hK'.2.2.2.1.1 (rb_s s T) rfl hH.2.1.1 a h)
  obtain ⟨q, hq'⟩ := hK'.2.2.2.2.1 _ hss
  have key : W p l e (rb_R R cells slots) (rb_s s T) m args below meth c T.heap [] 0 0 (fun t => t.status = .running ∧ ∃ (ce : Cell), Ended t below (.threw T.heap.size) ∧ s.WarmedH t.vm ∧ (rb_s s T).sameButNew ({ t with vm := s.vm } : State) [] 1 6 ∧ t.heap[T.heap.size]? = some ce ∧ s.vm.findClass (nn_X ei) = some ce.cls ∧ ce.vm = .none) (F0 m pc ls st) := by
    refine W.newc hx hb hown' (hts' _ hcl) (hts' _ hins) (hts' _ hini) rfl hd0 (show 0 + 1 ≤ R.cells - cells by omega) (show 0 + 6 ≤ R.slots - slots by omega) fun cC kC k1 k2 k3 k4 => ?_
    refine lv_dup hx hb hd3 rfl ?_
    refine va_ldcS hx hb hown' hq' hd4 ?_
    intro T2 hT2 X2
    obtain ⟨U, g1, g2, g3, g4, g5, ce, g6, g7⟩ := X2.ctorThrowS hx htr hown' (th_fitX ei h4) th_fit hat' (fun x hx => by cases hx) (a := T.heap.size) (cX := cC) (kX := kC) k1 k2 (by rw [hT2]; simp) (Nat.le_refl _) (msg := .ref q) rfl (g := F0 m (pc + 3 + 1 + 2) ls (.ref q :: .ref T.heap.size :: .ref T.heap.size :: st)) rfl (hl.1.trans hml.symm) rfl rfl (rest := st) rfl (by rw [hb]; exact hd6) (by rw [hb]; exact hd9) (hout _) (show 2 + 3 < R.frames by omega) (show 2 * 0 + (1 + (st.map fun v => v.category).sum) + (13 * (2 + 1) + 42) ≤ R.locals by omega) hlk
    exact ⟨U, g1, g2, ce, g3, g4, g5, g6, g7.cls, g7.vm⟩
  obtain ⟨t, s1, g2, ce, g3, g4, g5, g6, g7, g8⟩ := key T rfl X'
  refine ⟨t, s1, .threw T.heap.size, g2, g3, ⟨.inr (T.heap.size, ei), M, ⟨rfl, hH.fresh (Nat.le_refl _), ce, g6, g7, g8⟩, hq _ (hH.fresh (Nat.le_refl _)), ?_, ?_, hL.2.1⟩, locs, ⟨g4, (rb_back X g5).mono (by omega) (by omega)⟩, hL.1⟩
  · exact ⟨fun a u ha => (hH.1 a u ha).kept (rb_keep g5 (hH.lt ha)), ⟨by rw [rb_keep g5 (Array.getElem?_eq_some_iff.mp hH.2.1.1).1]; exact hH.2.1.1, hH.2.1.2⟩, ⟨by rw [rb_keep g5 (Array.getElem?_eq_some_iff.mp hH.2.2.1).1]; exact hH.2.2.1, hH.2.2.2⟩⟩
  · have z1 : T.heap.size ≤ t.heap.size := g5.2.1
    have z2 := hL.2.2
    omega
end TH
