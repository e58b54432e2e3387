def cx_ (l : Launch) (y : MethodName) (cc : ByteArray) (nL : Nat) (ret : Option FieldType) (d mc ms : Nat) (vs : List Value) (M : mm_M) (Q : mm_O → mm_M → Prop) : Prop :=
  ∀ (G : mm_G) (sz : Nat), Free.MetFree l y (headSpec (.code y cc nL ret :: nn_TS) (mm_R d mc ms)) (mm_Pc G M sz vs) (fun _ _ _ _ _ => True)
    (fun a st o t => mm_Q G Q (mm_A M sz) a st o t ∧ ∃ L : List Loc, (st.WarmedH t.vm ∧ st.sameButNew ({ t with vm := st.vm } : State) L mc ms) ∧ ∀ q ∈ L, mm_A M sz q.base)
theorem cx_of {l : Launch} {y : MethodName} {cc : ByteArray} {nL : Nat} {ret : Option FieldType} {d mc ms : Nat} {vs : List Value} {M : mm_M} {Q : mm_O → mm_M → Prop} (hy : plainName y.cls = true) (hn : (lg_sl vs).length ≤ nL)
    (h : ∀ (G : mm_G) (A : Nat → Prop), jj_ l y cc nL ret G (mm_R d mc ms) A Q mc ms 0 (lv_args 0 vs) [] M) : cx_ l y cc nL ret d mc ms vs M Q := by
  intro G sz
  refine Free.MetFree.of_bodyS (code := cc) (maxLocals := nL) (ret := ret) hy ?_ ?_
  · intro args s m h2 hn2
    obtain ⟨meth, c, h1, h2, h3, h4, h5, h6, -, -⟩ := Cond.code_spec hn2 (atoms_spec (ws := .code y cc nL ret :: nn_TS) h2 _ List.mem_cons_self)
    exact ⟨meth, c, h1, h2, h3, h4, h5, h6⟩
  · intro p e s m args below meth c s₁ B hml hv _
    obtain ⟨rfl, hsz, hH, hK⟩ := hv
    subst hsz
    have hts := atoms_spec (ws := .code y cc nL ret :: nn_TS) B.pre
    have hh0 : s₁.heap = s.heap := by rw [B.state]; rfl
    have k := h G (mm_A M s.heap.size) p e s m vs.toArray below meth c s.heap [] 0 0 _
      ⟨B.exec, B.bytes, hml, findClass_of_methodNamed B.named, fun w hw => hts w (List.mem_cons_of_mem _ hw), hK, B.returns, B.notSynchronized, (name_of_methodNamed B.named B.method).1, B.named, fun q hq => Or.inr hq⟩
      hH (lv_entry vs hn) ⟨(fun q hq => by cases hq), (fun q hq => Or.inl hq), Nat.le_refl _⟩ ⟨Nat.le_of_eq (Nat.zero_add _), Nat.le_of_eq (Nat.zero_add _)⟩
    rw [← lg_entry_eq] at k
    obtain ⟨t, a1, o, b1, b2, b3, b4⟩ := k s₁ hh0 (Stand.of_body B)
    exact ⟨t, o, a1, b1, b2, b3, b4⟩
section BX
variable {p : Program} {l : Launch} {e : Env} {R : Room} {s : State} {m : MethodId} {args : Array Value} {below : List Frame} {meth : Method} {c : Code} {U : State} {Ls : List Loc} {c0 s0 : Nat}
theorem bx_call {z : MethodName} {S : Spec} {P : Array Value → State → Prop} {Qf : Array Value → State → Outcome → State → Prop} {bytes : ByteArray} {maxL W : Nat} {zret : Option FieldType} (hM : Free.MetFree l z S P (fun _ _ _ _ _ => True) Qf)
    (X : Stand p l e R s m args below meth c U Ls c0 s0) {g : JFrame} {ig : Instr} {len : Nat} {mk : MethodId} {a : Array Value} (hg : g.method = m) (hsize : g.locals.size = c.maxLocals) (hdg : decode c.code g.pc = .ok (ig, len)) (hW : 2 * g.monitorRoom + (g.stack.map fun v => v.category).sum ≤ W) (hn : U.methodNamed? z = some mk)
    (hframes : S.room.frames + 1 ≤ R.frames) (hlocals : W + (maxL + 11) + S.room.locals ≤ R.locals)
    (h1 : S.pre.before a U = true) (h2 : (Cond.code z bytes maxL zret).before a U = true) (h3 : (Cond.initialized z.cls).before a U = true) (h4 : c0 + S.room.cells ≤ R.cells) (h5 : s0 + S.room.slots ≤ R.slots) (hP : P a (U.calling g mk a)) :
    ∃ o s₂, Steps p.tables e below (doInvoke e (U.setTop g) [] mk a).1 s₂ ∧ Ended s₂ (U.setTop g).frames o ∧ Qf a (U.calling g mk a) o s₂ := by
  obtain ⟨methY, cY, hmY, hcY, -, hlY, -, -, -, -⟩ := Cond.code_spec hn h2
  obtain ⟨kY, hkY, -⟩ := className_of_methodNamed hn
  have hinitY : kY.init = .initialized := Cond.initialized_spec (findClass_of_methodNamed hn) hkY h3
  have h : At U g.method c below := by rw [hg]; exact X.here
  have happ : S.appliesLoose z e.platform (U.calling g mk a) = true :=
    Spec.appliesLoose_calling (g := g) h hdg hn hkY hinitY (X.room_calling (g := g) (R' := S.room) hsize hmY hcY hframes (by rw [hlY]; omega) h4 h5) h1
  obtain ⟨mid, hmid⟩ := h.above
  have hfr : (U.setTop g).frames = (.java g :: mid) ++ below := by rw [State.frames_setTop' g h.top, hmid]; rfl
  obtain ⟨o, s₂, hsteps, -, hend, hq⟩ := Free.Steps.callFree hM p X.admits X.cas X.clock (acts := []) hfr happ hP trivial
  exact ⟨o, s₂, hsteps, hend, hq⟩
theorem bx_stand (X : Stand p l e R s m args below meth c U Ls c0 s0) {g : JFrame} {mk : MethodId} {a : Array Value} {s₂ : State} {L : List Loc} {k n : Nat} (hW : (U.calling g mk a).WarmedH s₂.vm) (hs : (U.calling g mk a).sameButNew ({ s₂ with vm := (U.calling g mk a).vm } : State) L k n) :
    Stand p l e R s m args below meth c (({ U with heap := s₂.heap, slotsUsed := s₂.slotsUsed } : State).setVm s₂.vm) (Ls ++ L) (c0 + k) (s0 + n) := by
  obtain ⟨e2, q2, q3, q4, q5, q6⟩ := hs
  have hW' : U.WarmedH s₂.vm := hW
  obtain ⟨g₀, hg0⟩ := Option.isSome_iff_exists.mp X.here.top
  obtain ⟨r, hr⟩ := State.topJava?_eq_some.mp hg0
  have hsame : U.sameButNew ({ U with heap := s₂.heap, slotsUsed := s₂.slotsUsed } : State) L k n := by
    refine ⟨?_, q2, q3, q4, q5, q6⟩
    obtain ⟨t, ht, -⟩ := State.frames_cons hr
    show ({ U with heap := s₂.heap, slotsUsed := s₂.slotsUsed } : State) = { U.setFrames U.frames with heap := s₂.heap, slotsUsed := s₂.slotsUsed }
    rw [State.setFrames_self ht]
  exact ⟨X.admits, X.cas, X.clock, X.frames, X.room, X.hears, X.method, X.code, (X.here.setHeapUsed s₂.heap s₂.slotsUsed).setVm hW'.alike, X.tail, State.WarmedH.trans X.warmed hW', X.limits, X.bytes, X.same.trans (hsame.setVm s.vm)⟩
theorem bx_eq (X : Stand p l e R s m args below meth c U Ls c0 s0) {g : JFrame} {mk : MethodId} {a : Array Value} {s₂ : State} {L : List Loc} {k n : Nat} (hs : (U.calling g mk a).sameButNew ({ s₂ with vm := (U.calling g mk a).vm } : State) L k n) {fs : List Frame} (hf : s₂.frames = fs) :
    s₂ = (({ U with heap := s₂.heap, slotsUsed := s₂.slotsUsed } : State).setVm s₂.vm).setFrames fs := by
  have e2 := hs.1
  have e3 : s₂ = ({ (U.calling g mk a).setFrames s₂.frames with heap := s₂.heap, slotsUsed := s₂.slotsUsed } : State).setVm s₂.vm := by
    have : s₂ = ({ s₂ with vm := (U.calling g mk a).vm } : State).setVm s₂.vm := rfl
    rw [e2] at this
    exact this
  refine e3.trans ?_
  rw [hf, State.calling_eq X.here.top, State.setFrames_setFrames]
  rfl
theorem bx_ret (X : Stand p l e R s m args below meth c U Ls c0 s0) {g g2 : JFrame} {mk : MethodId} {a : Array Value} {s₂ : State} {L : List Loc} {k n : Nat} (hs : (U.calling g mk a).sameButNew ({ s₂ with vm := (U.calling g mk a).vm } : State) L k n) {r : List Frame} {g₀ : JFrame} (hr : U.frames = .java g₀ :: r) (hf : s₂.frames = .java g2 :: r) :
    s₂ = (({ U with heap := s₂.heap, slotsUsed := s₂.slotsUsed } : State).setVm s₂.vm).setTop g2 := by
  have hr' : (({ U with heap := s₂.heap, slotsUsed := s₂.slotsUsed } : State).setVm s₂.vm).frames = .java g₀ :: r := hr
  rw [State.setTop_of_frames _ hr']
  exact bx_eq X hs hf
theorem bx_thr (X : Stand p l e R s m args below meth c U Ls c0 s0) {g : JFrame} {mk : MethodId} {a : Array Value} {s₂ : State} {L : List Loc} {k n x : Nat} (hs : (U.calling g mk a).sameButNew ({ s₂ with vm := (U.calling g mk a).vm } : State) L k n) {r : List Frame} {g₀ : JFrame} (hr : U.frames = .java g₀ :: r) (hf : s₂.frames = .throwing x :: .java g :: r) :
    s₂ = ((({ U with heap := s₂.heap, slotsUsed := s₂.slotsUsed } : State).setVm s₂.vm).setTop g).pushFrame (.throwing x) := by
  have hr' : (({ U with heap := s₂.heap, slotsUsed := s₂.slotsUsed } : State).setVm s₂.vm).frames = .java g₀ :: r := hr
  rw [State.pushFrame, State.frames_setTop _ hr', State.setTop_of_frames _ hr', State.setFrames_setFrames]
  exact bx_eq X hs hf
end BX
section JX
variable {l : Launch} {y : MethodName} {cc : ByteArray} {nL : Nat} {ret : Option FieldType} {G : mm_G} {R : Room} {A : Nat → Prop} {Q : mm_O → mm_M → Prop} {mc ms pc : Nat} {lv : List (Nat × Value)} {st : List Value} {M : mm_M}
def mm_ei (QR : Option Value → mm_M → Prop) (QT : Nat × Nat → mm_M → Prop) : mm_O → mm_M → Prop := fun o M => match o with
  | .inl v => QR v M
  | .inr q => QT q M
theorem jj_callX {z : MethodName} {zc : ByteArray} {znL : Nat} {zret : Option FieldType} {d mc' ms' n idx b ci : Nat} (As rest : List Value) (mcr msr : Nat) (hd : decode cc pc = .ok (.invokevirtual idx, 3)) (hc : mm_Cs y.cls idx z zc znL zret n) (hlnk : Cond.methodLink y.cls idx z ∈ nn_TS) (hi : Cond.instanceMethod z ∈ nn_TS ∧ Cond.selects z.cls z z ∈ nn_TS)
    (hk : mm_k M b = some (.inl ci)) (h8 : ci < 8 ∧ nn_C ci = z.cls) (hn : As.length = n) (hcat : (rest.map fun v => v.category).sum ≤ 8) (hR : d + 1 ≤ R.frames ∧ 8 + (znL + 11) + 34 * d ≤ R.locals) (h12 : mc' + mcr ≤ mc ∧ ms' + msr ≤ ms) (hst : st = As.reverse ++ .ref b :: rest) (hcy : Cond.code y cc nL ret ∈ nn_TS)
    (hM : cx_ l z zc znL zret d mc' ms' (.ref b :: As) M (mm_ei (fun v M' => jj_ l y cc nL ret G R A Q mcr msr (pc + 3) lv (v.toList ++ rest) M') (fun q M' => Q (.inr q) M'))) : jj_ l y cc nL ret G R A Q mc ms pc lv st M := by
  subst hst
  obtain ⟨hcode, hini, hdd, -⟩ := hc
  obtain ⟨h8, hci⟩ := h8
  intro p e s m args below meth c H locs cells slots ls hE hH hl hL hr T hT X
  have hE0 := hE
  obtain ⟨hx, hb, hml, hown, hts, hK, hret, hlk, hnm, hnd, hA⟩ := hE
  obtain ⟨hr1, hr2⟩ := hr
  subst hT
  obtain ⟨meth', c', hm', hc', -, -, -, -, hex, -⟩ := Cond.code_spec hnd (hts _ hcy)
  cases X.method.symm.trans hm'
  cases X.code.symm.trans hc'
  have hout : ∀ (pc' : Nat), ∀ x ∈ c.exceptionTable.toList, covers x pc' = false := by
    intro pc' x hx'
    have : c.exceptionTable.toList = [] := by simpa using hex
    rw [this] at hx'
    cases hx'
  obtain ⟨cellB, hcell, hobj, hcls⟩ := va_recv (q0 := 0) (a := b) (fs := mm_fs M b ci) hK.1 (hH.get hk) (mm_cl_at h8) rfl
  dsimp only at hcls
  rw [hci] at hcls
  obtain ⟨mk, methM, hnamed, hmethM, hstM, habM⟩ := Cond.instanceMethod_spec (hts _ hi.1)
  obtain ⟨methM', cM, hmethM', -, -, -, -, -, -, hsigM⟩ := Cond.code_spec hnamed (hts _ hcode)
  cases hmethM.symm.trans hmethM'
  obtain ⟨c2, r2, m2, q1, q2, q3, q4, kP, hkP, hkPi⟩ := Cond.selects_spec (hts _ hi.2)
  cases hcls.symm.trans q1
  cases (State.methodFound?_of_named hnamed ⟨hdd.1, hdd.2.1⟩).symm.trans q2
  cases hnamed.symm.trans q3
  have hselP : selectMethod e.platform s.vm cellB.cls mk = .method mk := by rw [Launch.admits_selectMethod X.admits]; exact q4
  have hlen : As.length = methM.sig.parameters.length := by
    have h2 := hdd.2.2
    rw [hsigM] at h2
    rw [hn]
    exact (Option.some.inj h2).symm
  obtain ⟨vm₁, X₁, hstep₁⟩ := X.invokevirtual hx hown (hts _ hlnk) hnamed hmethM hstM hkP hkPi ⟨hdd.1, hdd.2.1⟩ (a := b) (cell := cellB) hcell
    (fun z h => by rw [h] at hobj; cases hobj) hselP hmethM habM hkP hkPi (g := F0 m pc ls (As.reverse ++ .ref b :: rest)) rfl (argsL := As) (rest := rest) hlen rfl (by rw [hb]; exact hd)
  have hP : mm_Pc G M T.heap.size (.ref b :: As) (Value.ref b :: As).toArray (T.setVm vm₁) := ((mm_pre hH hK).2 (T.setVm vm₁) rfl X₁.warmed)
  have hpre := pay_in hts (nn_GJ hcode)
  obtain ⟨o, s₂, hsteps, hend, ⟨oo, M', ho, hq, hH', hz, hw'⟩, L, ⟨hW2, hs2⟩, hL2⟩ := bx_call (bytes := zc) (maxL := znL) (W := 8) (zret := zret) (hM G T.heap.size) X₁ (g := F0 m pc ls rest) (ig := .invokevirtual idx) (len := 3) (mk := mk) (a := (Value.ref b :: As).toArray) rfl (hl.1.trans hml.symm) (by rw [hb]; exact hd) (lv_room hcat) (X₁.named hnamed)
    hR.1 hR.2 (atoms_intro fun w hw => hpre w hw _ _ X₁.warmed) (hpre _ List.mem_cons_self _ _ X₁.warmed) (word_at X₁.warmed (nn_good hini) (hts _ hini)) (show cells + mc' ≤ R.cells by omega) (show slots + ms' ≤ R.slots by omega) (mm_blind _ _ _ _ hP)
  have X₂ := bx_stand X₁ hW2 hs2
  obtain ⟨g₀, hg0⟩ := Option.isSome_iff_exists.mp X₁.here.top
  obtain ⟨r, hr⟩ := State.topJava?_eq_some.mp hg0
  have hAA : ∀ q, mm_A M T.heap.size q → A q := fun q hq => by
    rcases hq with h3 | h3
    · exact hL.2.1 q h3
    · exact hA q (Nat.le_trans hL.2.2 h3)
  have hLL : ∀ q ∈ locs ++ L, A q.base := fun q hq2 => by
    rcases List.mem_append.mp hq2 with h3 | h3
    · exact hL.1 q h3
    · exact hAA _ (hL2 q h3)
  rw [State.frames_setTop _ hr] at hend
  have hz' : T.heap.size ≤ s₂.heap.size := hz
  cases oo with
  | inl v =>
    have hv : o = .returned v := ho
    subst hv
    obtain ⟨cc2, i₂, len₂, hc₂, hd₂, hf₂⟩ := hend
    have hW' : (T.setVm vm₁).WarmedH s₂.vm := hW2
    have hcc : cc2 = c := by
      have h1 : s₂.code? m = (T.setVm vm₁).code? m := by
        rw [State.code?_eq, State.code?_eq, hW'.alike.method?]
      exact Option.some.inj (hc₂.symm.trans (h1.trans X₁.here.code))
    subst hcc
    have hlen2 : len₂ = 3 := by
      rw [hb, hd] at hd₂
      cases hd₂
      rfl
    subst hlen2
    have hs₂ := bx_ret X₁ hs2 hr hf₂
    obtain ⟨t2, a1, b1⟩ := hq p e s m args below meth cc2 s₂.heap (locs ++ L) (cells + mc') (slots + ms') ls hE0 hH' hl ⟨hLL, fun q hq2 => hAA q (hw' q hq2), Nat.le_trans hL.2.2 hz'⟩ ⟨by omega, by omega⟩ (({ T.setVm vm₁ with heap := s₂.heap, slotsUsed := s₂.slotsUsed } : State).setVm s₂.vm) rfl X₂
    refine ⟨t2, hstep₁ _ fun acts => ?_, b1⟩
    rw [doInvoke_state]
    refine hsteps.trans ?_
    rw [hs₂]
    exact a1
  | inr x =>
    obtain ⟨hv, hkn, ce, hce, hfc, hvm⟩ := ho
    subst hv
    have hs₂ := bx_thr X₁ hs2 hr hend
    obtain ⟨w1, w2, w3, w4, w5⟩ := X₂.leaveThrown x.1 (g := F0 m pc ls rest) rfl rfl rfl (hout _) hlk
    refine ⟨_, hstep₁ _ fun acts => ?_, .threw x.1, w2, w3, ⟨.inr x, M', ⟨rfl, hkn, ce, hce, ?_, hvm⟩, hq, hH', Nat.le_trans hL.2.2 hz', fun q hq2 => hAA q (hw' q hq2)⟩, locs ++ L, ⟨w4, w5.mono (by omega) (by omega)⟩, hLL⟩
    · rw [doInvoke_state]
      refine hsteps.trans ?_
      rw [hs₂]
      exact w1
    · rw [← X₁.warmed.alike.findClass]
      exact hfc
end JX
