section FH
variable {E : CtlPost} {e : Env} {d : Bool} {acts : List Action} {s : State} {f : JFrame} {a : Addr} {Q : Handler → Pre}
theorem fh_cold {x : ExceptionTableEntry} {t : List ExceptionTableEntry} {c : ClassId} {cell : Cell} {vm' : Vm} (hx : covers x f.pc = true) (h0 : x.catchType ≠ 0) (hg : (Jvm.resolveClass f.method.cls x.catchType).Gives e.toSetting s.vm (.ok c) vm') (hsz : vm'.classes.size ≤ s.vm.classes.size)
    (hcell : s.heap[a]? = some cell) (hobj : ∀ k, cell.vm ≠ .statics k) (hk : ∃ k, vm'.classes[cell.cls]? = some k) (hc : ∃ k, vm'.classes[c]? = some k) :
    wp (findHandler.go f a (x :: t)) Q E e d acts s ↔ if vm'.assignable cell.cls c = true then Q (.found x.handlerPc) d acts (s.setVm vm') else wp (findHandler.go f a t) Q E e d acts (s.setVm vm') := by
  simp only [covers] at hx
  have hop : (VmOp.resolveClass f.method.cls x.catchType).answer e s.vm = .ok c ∧ (VmOp.resolveClass f.method.cls x.catchType).tables e s.vm = vm' := hg.op rfl
  have hl : (VmOp.resolveClass f.method.cls x.catchType).lands e s = .done (s.setVm vm') := by
    rw [VmOp.lands_same (by rw [hop.2]; exact hsz), hop.2]
  cases hfit : vm'.assignable cell.cls c <;>
    simp [findHandler.go, hx, h0, hop.1, hl, hcell, hobj, hk, hc, hfit, VmOp.dirties, VmOp.acts]
def ft_ (e : Env) (s : State) (f : JFrame) (a : Addr) (h : Handler) (s' : State) : Prop := ∀ (Q : Handler → Pre) (E : CtlPost) (d : Bool) (acts : List Action), wp (findHandler f a) Q E e d acts s ↔ Q h d acts s'
theorem ft_step {s' : State} {r : List Frame} {pc : Nat} (hfind : ft_ e s f a (.found pc) s') : (stepThrowing e s a (.java f :: r)).Is (s'.setFrames (.java { f with pc := pc, stack := [.ref a] } :: r)) [] := by
  simp only [stepThrowing, searchFrame, vmDo]
  generalize hr : Sem.go _ e false [] s = res
  obtain ⟨as, rfl, ha⟩ := Sem.eq_ok_of hr (a := Handler.found pc) (s' := s') (acts' := []) (by simp [hfind _ _ _ _])
  exact ⟨rfl, ha⟩
theorem ft_caught {tb : Tables} {below : List Frame} {c : Code} {T target : State} {g : JFrame} {pc : Nat} {vm' : Vm} (h : At T g.method c below) (hfind : ft_ e ((T.setTop g).pushFrame (.throwing a)) g a (.found pc) (((T.setTop g).pushFrame (.throwing a)).setVm vm'))
    (hrest : Steps tb e below ((T.setVm vm').setTop { g with pc := pc, stack := [.ref a] }) target) : Steps tb e below ((T.setTop g).pushFrame (.throwing a)) target := by
  obtain ⟨hgo, hw⟩ := h.throwing a
  refine Steps.head hgo hw ?_
  rw [stepThread_throwing (frames_entered h.top _), (ft_step (s := (T.setTop g).pushFrame (.throwing a)) hfind).1]
  obtain ⟨g₀, hg⟩ := Option.isSome_iff_exists.mp h.top
  obtain ⟨r, hr⟩ := State.topJava?_eq_some.mp hg
  have hr2 : (T.setVm vm').frames = .java g₀ :: r := hr
  rw [State.setTop_of_frames _ hr2] at hrest
  have e1 : (((T.setTop g).pushFrame (.throwing a)).setVm vm').setFrames (.java { g with pc := pc, stack := [.ref a] } :: r) = (T.setVm vm').setFrames (.java { g with pc := pc, stack := [.ref a] } :: r) := by
    have e2 : ((T.setTop g).pushFrame (.throwing a)).setFrames (.java { g with pc := pc, stack := [.ref a] } :: r) = T.setFrames (.java { g with pc := pc, stack := [.ref a] } :: r) := by
      rw [State.pushFrame, State.setFrames_setFrames, State.setTop_of_frames _ hr, State.setFrames_setFrames]
    exact congrArg (fun z : State => z.setVm vm') e2
  have e3 : T.frames.tail = r := by rw [hr]; rfl
  rw [e3, e1]
  exact hrest
end FH
def ft_ok (own : String) (pc : Nat) : List (Nat × Nat × Nat × Nat) → List Nat → Prop
  | x :: t, j :: js => (x.1 ≤ pc ∧ pc < x.2.1 ∧ x.2.2.2 ≠ 0 ∧ j < 4 ∧ Cond.classLink own x.2.2.2 (nn_X j) ∈ nn_TS) ∧ ft_ok own pc t js
  | [], [] => True
  | _, _ => False
def ft_h : List (Nat × Nat × Nat × Nat) → List Nat → Nat → Option Nat
  | x :: t, j :: js, ei => if j = ei then some x.2.2.1 else ft_h t js ei
  | _, _, _ => none
theorem ft_go {e : Env} {s : State} {args : Array Value} {f : JFrame} {a : Addr} {own : String} {ei hp : Nat} {cell : Cell} (hpl : e.platform.magicAccessors = ({} : Platform).magicAccessors) (hown : s.vm.findClass own = some f.method.cls) (hts : ∀ w ∈ nn_TS, w.before args s = true) (hN : mm_N s) (hei : ei < 4) (hobj : cell.vm = .none) (hfc : s.vm.findClass (nn_X ei) = some cell.cls) :
    ∀ (t : List ExceptionTableEntry) (js : List Nat) (U : State), ft_ok own f.pc (t.map (fun h => (h.startPc, h.endPc, h.handlerPc, h.catchType))) js → ft_h (t.map (fun h => (h.startPc, h.endPc, h.handlerPc, h.catchType))) js ei = some hp → s.WarmedH U.vm → U.heap[a]? = some cell →
      ∃ vm', s.WarmedH vm' ∧ ∀ (Q : Handler → Pre) (E : CtlPost) (d : Bool) (acts : List Action), wp (findHandler.go f a t) Q E e d acts U ↔ Q (.found hp) d acts (U.setVm vm') := by
  intro t
  induction t with
  | nil =>
    intro js U _ h2
    cases js <;> simp [ft_h] at h2
  | cons x t ih =>
    intro js U h1 h2 hW hcell
    cases js with
    | nil => exact h1.elim
    | cons j js =>
      obtain ⟨⟨c1, c2, c3, c4, c5⟩, c6⟩ := h1
      have hx : covers x f.pc = true := by
        simp only [covers, Bool.and_eq_true, decide_eq_true_eq]
        exact ⟨c1, c2⟩
      obtain ⟨c', hc', hcl⟩ := Cond.classLink_spec hown (hts _ c5) e.platform hpl
      obtain ⟨dk, _, _, kt, hd, _, _, _, _, hkt, _, hopen⟩ := hcl.here
      have hcl₀ := hW.classLinks hcl
      have hW' : s.WarmedH (U.vm.noted f.method.cls x.catchType (.cls c')) := hW.noted hd hopen (State.rightAt_cls hcl)
      obtain ⟨ks, hks, -⟩ := Vm.findClass_spec hfc
      obtain ⟨ks', hks', -⟩ := hW'.alike.2.2 _ _ hks
      obtain ⟨kt', hkt', -⟩ := hW'.alike.2.2 _ _ hkt
      have hsz : (U.vm.noted f.method.cls x.catchType (.cls c')).classes.size ≤ U.vm.classes.size := by rw [hW'.2.1, hW.2.1]; exact Nat.le_refl _
      have key := fun (Q : Handler → Pre) (E : CtlPost) (d : Bool) (acts : List Action) => fh_cold (E := E) (e := e) (d := d) (acts := acts) (s := U) (f := f) (a := a) (Q := Q) (x := x) (t := t) hx c3 (resolveClass_links e.toSetting hcl₀) hsz hcell (fun k h => by rw [hobj] at h; cases h) ⟨ks', hks'⟩ ⟨kt', hkt'⟩
      by_cases hj : j = ei
      · subst hj
        have hcc : c' = cell.cls := Option.some.inj (hc'.symm.trans hfc)
        have hhp : x.handlerPc = hp := by
          simp only [List.map_cons, ft_h, if_true] at h2
          exact Option.some.inj h2
        refine ⟨_, hW', fun Q E d acts => ?_⟩
        rw [key Q E d acts, hcc, if_pos (va_asg _ _), hhp]
      · have h2' : ft_h (t.map (fun h => (h.startPc, h.endPc, h.handlerPc, h.catchType))) js ei = some hp := by
          simp only [List.map_cons, ft_h, if_neg hj] at h2
          exact h2
        obtain ⟨n1, n2, n3, n4, n5⟩ := hN ei j hei c4 (fun z => hj z.symm)
        cases hfc.symm.trans n3
        cases hc'.symm.trans n4
        obtain ⟨vm2, w1, w2⟩ := ih js (U.setVm (U.vm.noted f.method.cls x.catchType (.cls c'))) c6 h2' hW' hcell
        refine ⟨vm2, w1, fun Q E d acts => ?_⟩
        rw [key Q E d acts, if_neg (by rw [hW'.alike.assignable, n5]; decide)]
        exact w2 Q E d acts
section JH
variable {l : Launch} {y : MethodName} {cc : ByteArray} {nL : Nat} {ret : Option FieldType} {G : mm_G} {R : Room} {A : Nat → Prop} {Q : mm_O → mm_M → Prop} {mc ms pc : Nat} {lv : List (Nat × Value)} {st : List Value} {M : mm_M}
theorem jj_callC {z : MethodName} {zc : ByteArray} {znL : Nat} {zret : Option FieldType} {d mc' ms' n idx b ci : Nat} {hh : List (Nat × Nat × Nat × Nat)} (js : List Nat) (As rest : List Value) (mcr msr : Nat) (hd : decode cc pc = .ok (.invokevirtual idx, 3)) (hc : mm_Cs y.cls idx z zc znL zret n) (hlnk : Cond.methodLink y.cls idx z ∈ nn_TS) (hi : Cond.instanceMethod z ∈ nn_TS ∧ Cond.selects z.cls z z ∈ nn_TS)
    (hk : mm_k M b = some (.inl ci)) (h8 : ci < 8 ∧ nn_C ci = z.cls) (hn : As.length = n) (hcat : (rest.map fun v => v.category).sum ≤ 8) (hR : d + 1 ≤ R.frames ∧ 8 + (znL + 11) + 34 * d ≤ R.locals) (h12 : mc' + mcr ≤ mc ∧ ms' + msr ≤ ms) (hst : st = As.reverse ++ .ref b :: rest) (hcy : Cond.codeWith y cc nL ret hh ∈ nn_TS) (hok : ft_ok y.cls pc hh js)
    (hM : cx_ l z zc znL zret d mc' ms' (.ref b :: As) M (mm_ei (fun v M' => jj_ l y cc nL ret G R A Q mcr msr (pc + 3) lv (v.toList ++ rest) M') (fun q M' => q.2 < 4 ∧ ∃ hp, ft_h hh js q.2 = some hp ∧ jj_ l y cc nL ret G R A Q mcr msr hp lv [.ref q.1] M'))) : jj_ l y cc nL ret G R A Q mc ms pc lv st M := by
  subst hst
  obtain ⟨hcode, hini, hdd, -⟩ := hc
  obtain ⟨h8, hci⟩ := h8
  intro p e s m args below meth c H locs cells slots ls hE hH hl hL hr T hT X
  have hE0 := hE
  obtain ⟨hx, hb, hml, hown, hts, hK, hret, hlk, hnm, hnd, hA⟩ := hE
  obtain ⟨hr1, hr2⟩ := hr
  subst hT
  have hpl : e.platform.magicAccessors = ({} : Platform).magicAccessors := by rw [X.admits.platform]
  obtain ⟨m9, meth', c', hm9, hm', hc', -, -, hex, -, -, -⟩ := Cond.codeWith_spec (hts _ hcy)
  cases hnd.symm.trans hm9
  cases X.method.symm.trans hm'
  cases X.code.symm.trans hc'
  obtain ⟨cellB, hcell, hobj, hcls⟩ := va_recv (q0 := 0) (a := b) (fs := mm_fs M b ci) hK.1 (hH.get hk) (mm_cl_at h8) rfl
  dsimp only at hcls
  rw [hci] at hcls
  obtain ⟨mk, methM, hnamed, hmethM, hstM, habM⟩ := Cond.instanceMethod_spec (hts _ hi.1)
  obtain ⟨methM', cM, hmethM', -, -, -, -, -, -, hsigM⟩ := Cond.code_spec hnamed (hts _ hcode)
  cases hmethM.symm.trans hmethM'
  obtain ⟨c2, r2, m2, q1, q2, q3, q4, kP, hkP, hkPi⟩ := Cond.selects_spec (hts _ hi.2)
  cases hcls.symm.trans q1
  cases (State.methodFound?_of_named hnamed ⟨hdd.1, hdd.2.1⟩).symm.trans q2
  cases hnamed.symm.trans q3
  have hselP : selectMethod e.platform s.vm cellB.cls mk = .method mk := by rw [Launch.admits_selectMethod X.admits]; exact q4
  have hlen : As.length = methM.sig.parameters.length := by
    have h2 := hdd.2.2
    rw [hsigM] at h2
    rw [hn]
    exact (Option.some.inj h2).symm
  obtain ⟨vm₁, X₁, hstep₁⟩ := X.invokevirtual hx hown (hts _ hlnk) hnamed hmethM hstM hkP hkPi ⟨hdd.1, hdd.2.1⟩ (a := b) (cell := cellB) hcell
    (fun z h => by rw [h] at hobj; cases hobj) hselP hmethM habM hkP hkPi (g := F0 m pc ls (As.reverse ++ .ref b :: rest)) rfl (argsL := As) (rest := rest) hlen rfl (by rw [hb]; exact hd)
  have hP : mm_Pc G M T.heap.size (.ref b :: As) (Value.ref b :: As).toArray (T.setVm vm₁) := ((mm_pre hH hK).2 (T.setVm vm₁) rfl X₁.warmed)
  have hpre := pay_in hts (nn_GJ hcode)
  obtain ⟨o, s₂, hsteps, hend, ⟨oo, M', ho, hq, hH', hz, hw'⟩, L, ⟨hW2, hs2⟩, hL2⟩ := bx_call (bytes := zc) (maxL := znL) (W := 8) (zret := zret) (hM G T.heap.size) X₁ (g := F0 m pc ls rest) (ig := .invokevirtual idx) (len := 3) (mk := mk) (a := (Value.ref b :: As).toArray) rfl (hl.1.trans hml.symm) (by rw [hb]; exact hd) (lv_room hcat) (X₁.named hnamed)
    hR.1 hR.2 (atoms_intro fun w hw => hpre w hw _ _ X₁.warmed) (hpre _ List.mem_cons_self _ _ X₁.warmed) (word_at X₁.warmed (nn_good hini) (hts _ hini)) (show cells + mc' ≤ R.cells by omega) (show slots + ms' ≤ R.slots by omega) (mm_blind _ _ _ _ hP)
  have X₂ := bx_stand X₁ hW2 hs2
  obtain ⟨g₀, hg0⟩ := Option.isSome_iff_exists.mp X₁.here.top
  obtain ⟨r, hr⟩ := State.topJava?_eq_some.mp hg0
  have hAA : ∀ q, mm_A M T.heap.size q → A q := fun q hq => by
    rcases hq with h3 | h3
    · exact hL.2.1 q h3
    · exact hA q (Nat.le_trans hL.2.2 h3)
  have hLL : ∀ q ∈ locs ++ L, A q.base := fun q hq2 => by
    rcases List.mem_append.mp hq2 with h3 | h3
    · exact hL.1 q h3
    · exact hAA _ (hL2 q h3)
  rw [State.frames_setTop _ hr] at hend
  have hz' : T.heap.size ≤ s₂.heap.size := hz
  cases oo with
  | inl v =>
    have hv : o = .returned v := ho
    subst hv
    obtain ⟨cc2, i₂, len₂, hc₂, hd₂, hf₂⟩ := hend
    have hW' : (T.setVm vm₁).WarmedH s₂.vm := hW2
    have hcc : cc2 = c := by
      have h1 : s₂.code? m = (T.setVm vm₁).code? m := by
        rw [State.code?_eq, State.code?_eq, hW'.alike.method?]
      exact Option.some.inj (hc₂.symm.trans (h1.trans X₁.here.code))
    subst hcc
    have hlen2 : len₂ = 3 := by
      rw [hb, hd] at hd₂
      cases hd₂
      rfl
    subst hlen2
    have hs₂ := bx_ret X₁ hs2 hr hf₂
    obtain ⟨t2, a1, b1⟩ := hq p e s m args below meth cc2 s₂.heap (locs ++ L) (cells + mc') (slots + ms') ls hE0 hH' hl ⟨hLL, fun q hq2 => hAA q (hw' q hq2), Nat.le_trans hL.2.2 hz'⟩ ⟨by omega, by omega⟩ (({ T.setVm vm₁ with heap := s₂.heap, slotsUsed := s₂.slotsUsed } : State).setVm s₂.vm) rfl X₂
    refine ⟨t2, hstep₁ _ fun acts => ?_, b1⟩
    rw [doInvoke_state]
    refine hsteps.trans ?_
    rw [hs₂]
    exact a1
  | inr x =>
    obtain ⟨hv, hkn, ce, hce, hfc, hvm⟩ := ho
    subst hv
    obtain ⟨h4, hp, hhp, hjj⟩ := hq
    have hs₂ := bx_thr X₁ hs2 hr hend
    have hfc' : s.vm.findClass (nn_X x.2) = some ce.cls := by
      rw [← X₁.warmed.alike.findClass]
      exact hfc
    have hU : ∀ z : State, z = ((({ T.setVm vm₁ with heap := s₂.heap, slotsUsed := s₂.slotsUsed } : State).setVm s₂.vm).setTop (F0 m pc ls rest)).pushFrame (.throwing x.1) → z.vm = s₂.vm ∧ z.heap = s₂.heap := by
      intro z hz
      rw [hz]
      exact ⟨Stand.throwing_vm _ _ _, Stand.throwing_heap _ _ _⟩
    obtain ⟨hU1, hU2⟩ := hU _ rfl
    obtain ⟨vm2, w1, w2⟩ := ft_go (e := e) (args := args) (f := F0 m pc ls rest) (a := x.1) (own := y.cls) (ei := x.2) (hp := hp) (cell := ce) hpl hown hts hK.2.2.2.2.2 h4 hvm hfc' c.exceptionTable.toList js (((({ T.setVm vm₁ with heap := s₂.heap, slotsUsed := s₂.slotsUsed } : State).setVm s₂.vm).setTop (F0 m pc ls rest)).pushFrame (.throwing x.1)) (by rw [hex]; exact hok) (by rw [hex]; exact hhp) (by rw [hU1]; exact X₂.warmed) (by rw [hU2]; exact hce)
    have hft : ft_ e (((({ T.setVm vm₁ with heap := s₂.heap, slotsUsed := s₂.slotsUsed } : State).setVm s₂.vm).setTop (F0 m pc ls rest)).pushFrame (.throwing x.1)) (F0 m pc ls rest) x.1 (.found hp) ((((({ T.setVm vm₁ with heap := s₂.heap, slotsUsed := s₂.slotsUsed } : State).setVm s₂.vm).setTop (F0 m pc ls rest)).pushFrame (.throwing x.1)).setVm vm2) := by
      intro Q E d acts
      rw [Jvm.W.findHandler_eq (meth := meth) (code := c) (by rw [hU1]; exact X₂.method') X.code]
      exact w2 Q E d acts
    have X₃ := X₂.noted w1
    obtain ⟨t2, a1, b1⟩ := hjj p e s m args below meth c s₂.heap (locs ++ L) (cells + mc') (slots + ms') ls hE0 hH' hl ⟨hLL, fun q hq2 => hAA q (hw' q hq2), Nat.le_trans hL.2.2 hz'⟩ ⟨by omega, by omega⟩ ((({ T.setVm vm₁ with heap := s₂.heap, slotsUsed := s₂.slotsUsed } : State).setVm s₂.vm).setVm vm2) rfl X₃
    refine ⟨t2, hstep₁ _ fun acts => ?_, b1⟩
    rw [doInvoke_state]
    refine hsteps.trans ?_
    rw [hs₂]
    exact ft_caught (g := F0 m pc ls rest) X₂.here hft a1
end JH
