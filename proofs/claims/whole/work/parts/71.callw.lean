def cw_ (l : Launch) (y : MethodName) (cc : ByteArray) (nL : Nat) (ret : Option FieldType) (hh : List (Nat × Nat × Nat × Nat)) (d mc ms : Nat) (vs : List Value) (M : mm_M) (Q : Option Value → mm_M → Prop) : Prop :=
  ∀ (G : mm_G) (sz : Nat), Free.MetFree l y (headSpec (.codeWith y cc nL ret hh :: nn_TS) (mm_R d mc ms)) (mm_Pc G M sz vs) (fun _ _ _ _ _ => True)
    (fun a st o t => mm_Q G (mm_ret Q) (mm_A M sz) a st o t ∧ ∃ L : List Loc, (st.WarmedH t.vm ∧ st.sameButNew ({ t with vm := st.vm } : State) L mc ms) ∧ ∀ q ∈ L, mm_A M sz q.base)
theorem cw_of {l : Launch} {y : MethodName} {cc : ByteArray} {nL : Nat} {ret : Option FieldType} {hh : List (Nat × Nat × Nat × Nat)} {d mc ms : Nat} {vs : List Value} {M : mm_M} {Q : Option Value → mm_M → Prop} (hy : plainName y.cls = true) (hn : (lg_sl vs).length ≤ nL)
    (h : ∀ (G : mm_G) (A : Nat → Prop), jj_ l y cc nL ret G (mm_R d mc ms) A (mm_ret Q) mc ms 0 (lv_args 0 vs) [] M) : cw_ l y cc nL ret hh d mc ms vs M Q := by
  intro G sz
  refine Free.MetFree.of_bodyS (code := cc) (maxLocals := nL) (ret := ret) hy ?_ ?_
  · intro args s m h2 hn2
    obtain ⟨m', meth, c, hn', h1, h2, h3, h4, -, h5, h6, -⟩ := Cond.codeWith_spec (atoms_spec (ws := .codeWith y cc nL ret hh :: nn_TS) h2 _ List.mem_cons_self)
    cases hn2.symm.trans hn'
    exact ⟨meth, c, h1, h2, h3, h4, h5, h6⟩
  · intro p e s m args below meth c s₁ B hml hv _
    obtain ⟨rfl, hsz, hH, hK⟩ := hv
    subst hsz
    have hts := atoms_spec (ws := .codeWith y cc nL ret hh :: nn_TS) B.pre
    have hh0 : s₁.heap = s.heap := by rw [B.state]; rfl
    have k := h G (mm_A M s.heap.size) p e s m vs.toArray below meth c s.heap [] 0 0 _
      ⟨B.exec, B.bytes, hml, findClass_of_methodNamed B.named, fun w hw => hts w (List.mem_cons_of_mem _ hw), hK, B.returns, B.notSynchronized, (name_of_methodNamed B.named B.method).1, B.named, fun q hq => Or.inr hq⟩
      hH (lv_entry vs hn) ⟨(fun q hq => by cases hq), (fun q hq => Or.inl hq), Nat.le_refl _⟩ ⟨Nat.le_of_eq (Nat.zero_add _), Nat.le_of_eq (Nat.zero_add _)⟩
    rw [← lg_entry_eq] at k
    obtain ⟨t, a1, o, b1, b2, b3, b4⟩ := k s₁ hh0 (Stand.of_body B)
    exact ⟨t, o, a1, b1, b2, b3, b4⟩
section BW
variable {p : Program} {l : Launch} {e : Env} {R : Room} {s : State} {m : MethodId} {args : Array Value} {below : List Frame} {meth : Method} {c : Code} {U : State} {Ls : List Loc} {c0 s0 : Nat}
theorem bw_call {z : MethodName} {S : Spec} {P : Array Value → State → Prop} {Qf : Array Value → State → Outcome → State → Prop} {bytes : ByteArray} {maxL W : Nat} {zret : Option FieldType} {hh : List (Nat × Nat × Nat × Nat)} (hM : Free.MetFree l z S P (fun _ _ _ _ _ => True) Qf)
    (X : Stand p l e R s m args below meth c U Ls c0 s0) {g : JFrame} {ig : Instr} {len : Nat} {mk : MethodId} {a : Array Value} (hg : g.method = m) (hsize : g.locals.size = c.maxLocals) (hdg : decode c.code g.pc = .ok (ig, len)) (hW : 2 * g.monitorRoom + (g.stack.map fun v => v.category).sum ≤ W) (hn : U.methodNamed? z = some mk)
    (hframes : S.room.frames + 1 ≤ R.frames) (hlocals : W + (maxL + 11) + S.room.locals ≤ R.locals)
    (h1 : S.pre.before a U = true) (h2 : (Cond.codeWith z bytes maxL zret hh).before a U = true) (h3 : (Cond.initialized z.cls).before a U = true) (h4 : c0 + S.room.cells ≤ R.cells) (h5 : s0 + S.room.slots ≤ R.slots) (hP : P a (U.calling g mk a)) :
    ∃ o s₂, Steps p.tables e below (doInvoke e (U.setTop g) [] mk a).1 s₂ ∧ Ended s₂ (U.setTop g).frames o ∧ Qf a (U.calling g mk a) o s₂ := by
  obtain ⟨mk', methY, cY, hn', hmY, hcY, -, hlY, -, -, -, -⟩ := Cond.codeWith_spec h2
  cases hn.symm.trans hn'
  obtain ⟨kY, hkY, -⟩ := className_of_methodNamed hn
  have hinitY : kY.init = .initialized := Cond.initialized_spec (findClass_of_methodNamed hn) hkY h3
  have h : At U g.method c below := by rw [hg]; exact X.here
  have happ : S.appliesLoose z e.platform (U.calling g mk a) = true :=
    Spec.appliesLoose_calling (g := g) h hdg hn hkY hinitY (X.room_calling (g := g) (R' := S.room) hsize hmY hcY hframes (by rw [hlY]; omega) h4 h5) h1
  obtain ⟨mid, hmid⟩ := h.above
  have hfr : (U.setTop g).frames = (.java g :: mid) ++ below := by rw [State.frames_setTop' g h.top, hmid]; rfl
  obtain ⟨o, s₂, hsteps, -, hend, hq⟩ := Free.Steps.callFree hM p X.admits X.cas X.clock (acts := []) hfr happ hP trivial
  exact ⟨o, s₂, hsteps, hend, hq⟩
end BW
section JW
variable {l : Launch} {y : MethodName} {cc : ByteArray} {nL : Nat} {ret : Option FieldType} {G : mm_G} {R : Room} {A : Nat → Prop} {Q : mm_O → mm_M → Prop} {mc ms pc : Nat} {lv : List (Nat × Value)} {st : List Value} {M : mm_M}
theorem jj_callW {z : MethodName} {zc : ByteArray} {znL : Nat} {zret : Option FieldType} {hh : List (Nat × Nat × Nat × Nat)} {d mc' ms' n idx : Nat} (As rest : List Value) (mcr msr : Nat) (hd : decode cc pc = .ok (.invokestatic idx, 3)) (hcode : Cond.codeWith z zc znL zret hh ∈ nn_TS) (hini : Cond.initialized z.cls ∈ nn_TS)
    (hdd : z.cls ≠ "java/lang/invoke/MethodHandle" ∧ z.cls ≠ "java/lang/invoke/VarHandle" ∧ (parseMethodDescriptor z.desc).map (fun d => d.parameters.length) = some n) (hlnk : Cond.methodLink y.cls idx z ∈ nn_TS) (hi : Cond.static z ∈ nn_TS)
    (hn : As.length = n) (hcat : (rest.map fun v => v.category).sum ≤ 8) (hR : d + 1 ≤ R.frames ∧ 8 + (znL + 11) + 34 * d ≤ R.locals) (h12 : mc' + mcr ≤ mc ∧ ms' + msr ≤ ms) (hst : st = As.reverse ++ rest)
    (hM : cw_ l z zc znL zret hh d mc' ms' As M (fun v M' => jj_ l y cc nL ret G R A Q mcr msr (pc + 3) lv (v.toList ++ rest) M')) : jj_ l y cc nL ret G R A Q mc ms pc lv st M := by
  subst hst
  intro p e s m args below meth c H locs cells slots ls hE hH hl hL hr T hT X
  have hE0 := hE
  obtain ⟨hx, hb, hml, hown, hts, hK, hret, hlk, hnm, hnd, hA⟩ := hE
  obtain ⟨hr1, hr2⟩ := hr
  subst hT
  obtain ⟨mk, methM, cM, hnamed, hmethM, -, -, -, -, -, -, hsigM⟩ := Cond.codeWith_spec (hts _ hcode)
  have hstatic : methM.isStatic = true := Cond.static_spec hnamed hmethM (hts _ hi)
  obtain ⟨kP, hkP, -⟩ := className_of_methodNamed hnamed
  have hinitP : kP.init = .initialized := Cond.initialized_spec (findClass_of_methodNamed hnamed) hkP (hts _ hini)
  have hlen : As.length = methM.sig.parameters.length := by
    have h2 := hdd.2.2
    rw [hsigM] at h2
    rw [hn]
    exact (Option.some.inj h2).symm
  obtain ⟨vm₁, X₁, hstep₁⟩ := X.invokestatic hx hown (hts _ hlnk) hnamed hmethM hstatic hkP hinitP ⟨hdd.1, hdd.2.1⟩ (g := F0 m pc ls (As.reverse ++ rest)) rfl (argsL := As) (rest := rest) hlen rfl (by rw [hb]; exact hd)
  have hP : mm_Pc G M T.heap.size As As.toArray (T.setVm vm₁) := ((mm_pre hH hK).2 (T.setVm vm₁) rfl X₁.warmed)
  have hpre := pay_in hts (nn_GJ hcode)
  obtain ⟨o, s₂, hsteps, hend, ⟨oo, M', ho, hq, hH', hz, hw'⟩, L, ⟨hW2, hs2⟩, hL2⟩ := bw_call (bytes := zc) (maxL := znL) (W := 8) (zret := zret) (hh := hh) (hM G T.heap.size) X₁ (g := F0 m pc ls rest) (ig := .invokestatic idx) (len := 3) (mk := mk) (a := As.toArray) rfl (hl.1.trans hml.symm) (by rw [hb]; exact hd) (lv_room hcat) (X₁.named hnamed)
    hR.1 hR.2 (atoms_intro fun w hw => hpre w hw _ _ X₁.warmed) (hpre _ List.mem_cons_self _ _ X₁.warmed) (word_at X₁.warmed (nn_good hini) (hts _ hini)) (show cells + mc' ≤ R.cells by omega) (show slots + ms' ≤ R.slots by omega) (mm_blind _ _ _ _ hP)
  have X₂ := bx_stand X₁ hW2 hs2
  obtain ⟨g₀, hg0⟩ := Option.isSome_iff_exists.mp X₁.here.top
  obtain ⟨r, hr⟩ := State.topJava?_eq_some.mp hg0
  have hAA : ∀ q, mm_A M T.heap.size q → A q := fun q hq => by
    rcases hq with h3 | h3
    · exact hL.2.1 q h3
    · exact hA q (Nat.le_trans hL.2.2 h3)
  have hLL : ∀ q ∈ locs ++ L, A q.base := fun q hq2 => by
    rcases List.mem_append.mp hq2 with h3 | h3
    · exact hL.1 q h3
    · exact hAA _ (hL2 q h3)
  rw [State.frames_setTop _ hr] at hend
  have hz' : T.heap.size ≤ s₂.heap.size := hz
  cases oo with
  | inl v =>
    have hv : o = .returned v := ho
    subst hv
    obtain ⟨cc2, i₂, len₂, hc₂, hd₂, hf₂⟩ := hend
    have hW' : (T.setVm vm₁).WarmedH s₂.vm := hW2
    have hcc : cc2 = c := by
      have h1 : s₂.code? m = (T.setVm vm₁).code? m := by
        rw [State.code?_eq, State.code?_eq, hW'.alike.method?]
      exact Option.some.inj (hc₂.symm.trans (h1.trans X₁.here.code))
    subst hcc
    have hlen2 : len₂ = 3 := by
      rw [hb, hd] at hd₂
      cases hd₂
      rfl
    subst hlen2
    have hs₂ := bx_ret X₁ hs2 hr hf₂
    obtain ⟨t2, a1, b1⟩ := hq p e s m args below meth cc2 s₂.heap (locs ++ L) (cells + mc') (slots + ms') ls hE0 hH' hl ⟨hLL, fun q hq2 => hAA q (hw' q hq2), Nat.le_trans hL.2.2 hz'⟩ ⟨by omega, by omega⟩ (({ T.setVm vm₁ with heap := s₂.heap, slotsUsed := s₂.slotsUsed } : State).setVm s₂.vm) rfl X₂
    refine ⟨t2, hstep₁ _ fun acts => ?_, b1⟩
    rw [doInvoke_state]
    refine hsteps.trans ?_
    rw [hs₂]
    exact a1
  | inr x => exact hq.elim
end JW
