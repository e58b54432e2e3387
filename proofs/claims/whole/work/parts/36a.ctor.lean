def th_NA (own : String) (ic : Nat) (X Y : String) (ix : Nat) (nb : ByteArray) (r : List String) : List Cond :=
  Bundle.throwableAtoms ++ Bundle.throwableSAtoms ++ Bundle.passSAtoms X Y ix nb ++ Bundle.chainSAtoms Y r ++
  [.methodLink own ic (Bundle.initS X), .instantiable X 6, .castable X X, .selects X Bundle.tFill0 Bundle.tFill0, .selects X Bundle.tFill Bundle.tFill,
   .lays X Bundle.tN "cause" "Ljava/lang/Throwable;", .lays X Bundle.tN "stackTrace" Bundle.steD, .lays X Bundle.tN "suppressedExceptions" Bundle.listD, .lays X Bundle.tN "detailMessage" "Ljava/lang/String;",
   .isRef (.static Bundle.tN "UNASSIGNED_STACK" Bundle.steD), .isRef (.static Bundle.tN "SUPPRESSED_SENTINEL" Bundle.listD),
   .fieldLink Bundle.tN 198 Bundle.tN "backtrace" "Ljava/lang/Object;", .lays Bundle.tN Bundle.tN "backtrace" "Ljava/lang/Object;", .lays X Bundle.tN "backtrace" "Ljava/lang/Object;"]
set_option maxHeartbeats 1000000 in
theorem th_ctor {p : Program} {l : Launch} {e : Env} {R : Room} {s : State} {m₀ : MethodId} {args : Array Value} {below : List Frame} {meth : Method} {c : Code} {W : State} {locs : List Loc} {cells slots : Nat} (X : Stand p l e R s m₀ args below meth c W locs cells slots) (hexec : p.tables.exec = Jvm.exec) (htr : e.platform.stackTraces = false) {own cls Y : String} {r : List String} {ic ix : Nat} {nb : ByteArray}
    (b0 : decode nb 0 = .ok (.aload_n 0, 1)) (b1 : decode nb 1 = .ok (.aload_n 1, 1)) (b2 : decode nb 2 = .ok (.invokespecial ix, 3)) (b5 : decode nb 5 = .ok (.return_, 1))
    (hown : s.vm.findClass own = some m₀.cls) (hcls : Bundle.fit cls = true) (hY : Bundle.fit Y = true) (hnames : ∀ n ∈ r, Bundle.fit n = true)
    (h : ∀ a ∈ th_NA own ic cls Y ix nb r, a.before args s = true)
    (hlocs : ∀ x ∈ locs, ∀ cell, s.heap[x.base]? = some cell → cell.vm.isStatics = false)
    {a : Addr} {cX : ClassId} {kX : Class} (hfoundX : s.vm.findClass cls = some cX) (hkX : s.vm.classes[cX]? = some kX) (hcell : W.heap[a]? = some (freshCell cX kX)) (hnew : s.heap.size ≤ a)
    {msg : Value} (hmsg : msg.isRef = true)
    {g : JFrame} (hg : g.method = m₀) (hsize : g.locals.size = c.maxLocals) (hlocked : g.locked = none) (hentered : g.entered = []) {rest : List Value} (hstack : g.stack = msg :: .ref a :: .ref a :: rest)
    (hd6 : decode c.code g.pc = .ok (.invokespecial ic, 3)) (hd9 : decode c.code (g.pc + 3) = .ok (.athrow, 1)) (hout : ∀ x ∈ c.exceptionTable.toList, covers x (g.pc + 3) = false)
    (hRframes : r.length + 1 + 3 < R.frames) (hRlocals : 2 * g.monitorRoom + ((Value.ref a :: rest).map fun v => v.category).sum + (13 * (r.length + 1 + 1) + 42) ≤ R.locals) (hlocks : meth.locks = false) :
    ∃ U : State, Steps p.tables e below (W.setTop g) U ∧ U.status = .running ∧ Ended U below (.threw a) ∧ s.WarmedH U.vm ∧ s.sameButNew ({ U with vm := s.vm } : State) locs cells slots ∧
      ∃ ce : Cell, U.heap[a]? = some ce ∧ s.vm.findClass cls = some ce.cls ∧ ce.vm = .none := by
  have howns : e.platform.frameOwnsMonitors = true := by rw [X.admits.platform]
  have hfin : e.platform.finalization = false := by rw [X.admits.platform]
  have hpl : e.platform.magicAccessors = ({} : Platform).magicAccessors := by rw [X.admits.platform]
  have a' : ∀ x, x ∈ th_NA own ic cls Y ix nb r → x.holds args s none s [] = true := fun x hx => h x hx
  obtain ⟨T, Z0, L, -, Yt⟩ := ThrowableC.of_atoms (args := args) howns hfin hpl (fun x hx => h x (by simp [th_NA, hx]))
  obtain ⟨Z, M, LZ, LM, hnZ⟩ := Init0T.ofS_atoms (args := args) hpl L Yt (fun x hx => h x (by simp [th_NA, hx]))
  obtain ⟨P1, L1, hP1m, hsupY⟩ := PassC.ofS_atoms (args := args) (s := s) hpl (X := cls) (Y := Y) (Bundle.fit_spec hcls).1 (Bundle.fit_spec hY).2 b0 b1 b2 b5 (fun x hx => h x (by simp [th_NA, hx]))
  obtain ⟨P2, Ps2, hlen2, L2, hL2, hP2m, hlink2, hlink3⟩ := Bundle.chainS (args := args) hpl hnZ r Y hY hnames (fun x hx => h x (by simp [th_NA, hx]))
  have hlink1 : P1.sup = P2.m := Option.some.inj (hsupY.symm.trans hP2m)
  have hlen : (P2 :: Ps2).length = r.length + 1 := by simp [hlen2]
  have hfound : s.vm.findClass cls = some P1.m.cls := findClass_of_methodNamed hP1m
  cases Option.some.inj (hfoundX.symm.trans hfound)
  obtain ⟨c1, kX', hc1, hk, hord, -, -, hn6⟩ := Cond.instantiable_spec (a' (.instantiable cls 6) (by simp [th_NA]))
  cases Option.some.inj (hc1.symm.trans hfound)
  cases Option.some.inj (hkX.symm.trans hk)
  have hsel0 : selectMethod e.platform s.vm P1.m.cls T.fill0 = .method T.fill0 := by
    obtain ⟨c2, r2, m2, q1, q2, q3, q4, -⟩ := Cond.selects_spec (a' (.selects cls Bundle.tFill0 Bundle.tFill0) (by simp [th_NA]))
    cases Option.some.inj (q1.symm.trans hfound)
    cases Option.some.inj (q2.symm.trans (State.methodFound?_of_named Yt.fill0 (by decide)))
    cases Option.some.inj (q3.symm.trans Yt.fill0)
    rw [Launch.admits_selectMethod X.admits]; exact q4
  have hselF : selectMethod e.platform s.vm P1.m.cls T.fill = .method T.fill := by
    obtain ⟨c2, r2, m2, q1, q2, q3, q4, -⟩ := Cond.selects_spec (a' (.selects cls Bundle.tFill Bundle.tFill) (by simp [th_NA]))
    cases Option.some.inj (q1.symm.trans hfound)
    cases Option.some.inj (q2.symm.trans (State.methodFound?_of_named Yt.fill (by decide)))
    cases Option.some.inj (q3.symm.trans Yt.fill)
    rw [Launch.admits_selectMethod X.admits]; exact q4
  obtain ⟨cellS0, hcS0, hiss⟩ := Yt.statics
  obtain ⟨u0, hu0⟩ := Cond.staticRefV Yt.unassigned L.unassignedStatic L.statics hcS0 hiss (a' (.isRef (.static Bundle.tN "UNASSIGNED_STACK" Bundle.steD)) (by simp [th_NA]))
  obtain ⟨sen, hsen⟩ := Cond.staticRefV Yt.sentinel L.sentinelStatic L.statics hcS0 hiss (a' (.isRef (.static Bundle.tN "SUPPRESSED_SENTINEL" Bundle.listD)) (by simp [th_NA]))
  obtain ⟨ci198, i198, fB, hk198, hg198, ha198, hsB, -, hnB, htB, hffB⟩ := Cond.ownField (t := .object "java/lang/Object") Yt.found L.cls (by decide +kernel) (a' (.fieldLink Bundle.tN 198 Bundle.tN "backtrace" "Ljava/lang/Object;") (by simp [th_NA])) (a' (.lays Bundle.tN Bundle.tN "backtrace" "Ljava/lang/Object;") (by simp [th_NA])) e.platform hpl
  obtain ⟨cellS, hcS', heS, -, hkeep⟩ := X.same.2.2.2.2.2 T.aS cellS0 hcS0
  have hcellS : W.heap[T.aS]? = some cellS := hcS'
  have hout' : ∀ i, (⟨T.aS, i⟩ : Loc) ∉ locs := fun i hmem => by
    have := hlocs _ hmem cellS0 hcS0
    rw [hiss] at this; cases this
  have hknownS : cellS.vm ≠ .unknown := by
    rw [heS]; intro hu
    rw [show cellS0.vm = .unknown from hu] at hiss
    cases hiss
  have hneS : T.aS ≠ a := Nat.ne_of_lt (Nat.lt_of_lt_of_le (Array.getElem?_eq_some_iff.mp hcS0).1 hnew)
  obtain ⟨iM, hffM⟩ := Yt.msg
  obtain ⟨tyC, dC, hdC, hdnC⟩ := Cond.laysAt hfound hk Yt.cause (a' (.lays cls Bundle.tN "cause" "Ljava/lang/Throwable;") (by simp [th_NA]))
  obtain ⟨tyS, dS, hdS, hdnS⟩ := Cond.laysAt hfound hk Yt.stack (a' (.lays cls Bundle.tN "stackTrace" Bundle.steD) (by simp [th_NA]))
  obtain ⟨tyP, dP, hdP, hdnP⟩ := Cond.laysAt hfound hk Yt.supp (a' (.lays cls Bundle.tN "suppressedExceptions" Bundle.listD) (by simp [th_NA]))
  obtain ⟨tyM, dM, hdM, hdnM⟩ := Cond.laysAt hfound hk hffM (a' (.lays cls Bundle.tN "detailMessage" "Ljava/lang/String;") (by simp [th_NA]))
  obtain ⟨tyB, dB, hdB, hdnB⟩ := Cond.laysAt hfound hk hffB (a' (.lays cls Bundle.tN "backtrace" "Ljava/lang/Object;") (by simp [th_NA]))
  have bC := Cond.laysApart hdB hdC hdnB hdnC (by rw [hnB, Yt.causeName]; decide)
  have bS := Cond.laysApart hdB hdS hdnB hdnS (by rw [hnB, Yt.stackName]; decide)
  have bP := Cond.laysApart hdB hdP hdnB hdnP (by rw [hnB, Yt.suppName]; decide)
  have hskip : SkipFacts T e.platform s (fun u => u) u0 ((preparedCellV T.toThrowableT (freshCell P1.m.cls kX) a u0 sen).withEntry W.cur) :=
    ⟨{ ci198 := ci198, i198 := i198, fBack := fB }, ⟨hk198, hg198, ha198, hsB⟩, by
      have := fresh_default (c := P1.m.cls) tyB
      rw [htB] at this
      simpa [preparedCellV, Cell.setSlot, Cell.withEntry, Array.getElem?_setIfInBounds, bC, bS, bP, bC.symm, bS.symm, bP.symm, defaultValue] using this, fun _ _ => rfl⟩
  obtain ⟨tm, methC, cdC, kC, vm₁, hnC, -, -, -, -, -, -, -, hW₁, st1⟩ := Steps.initColdS (tb := p.tables) (e := e) (below := below) (s := s) (U := W) X.here hexec X.warmed hpl hown (t := Bundle.initS cls) rfl rfl (Bundle.fit_spec hcls).2
    (a' (.methodLink own ic (Bundle.initS cls)) (by simp [th_NA])) (h (.instanceMethod (Bundle.initS cls)) (by simp [th_NA, Bundle.passSAtoms])) (bytes := nb) (maxL := 2) (h (.code (Bundle.initS cls) nb 2 none) (by simp [th_NA, Bundle.passSAtoms]))
    (f := g) hg (a := a) (msg := msg) (rest := .ref a :: rest) hstack hd6
  cases Option.some.inj (hnC.symm.trans hP1m)
  have X₁ := X.noted hW₁
  obtain ⟨vm₂, X₂, st2⟩ := X₁.ctorMessageOffV hexec (g := { g with stack := .ref a :: rest }) hg hsize T L Z LZ M LM (P1 :: P2 :: Ps2)
    (fun P hP => by rcases List.mem_cons.mp hP with rfl | hP; exact L1; rcases List.mem_cons.mp hP with rfl | hP; exact L2; exact hL2 P hP) ⟨hlink1, hlink2, hlink3⟩ (u0 := u0) (sen := sen) (self := a) hmsg (cell := freshCell P1.m.cls kX) (cellS := cellS)
    hcell (fun _ => by simp) (by simp) rfl rfl hsel0 hselF hcellS hneS hknownS (by rw [hkeep _ (hout' _)]; exact hu0) (by rw [hkeep _ (hout' _)]; exact hsen)
    (Takes.of_laid hk hord tyC (by rw [Yt.causeType]; rfl)) (Takes.of_laid hk hord tyS (by rw [Yt.stackType]; exact fits_refV_array _ u0)) (Takes.of_laid hk hord tyP (by rw [Yt.suppType]; exact fits_refV_object _ sen))
    (Takes.of_laid hk hord tyM (by rw [Yt.msgType]; exact fits_refV_object _ ⟨msg, hmsg⟩)) Yt.objLocals hskip htr [] hd6
    (by simp only [List.length_cons, hlen2]; omega) (by simp only [List.length_cons, hlen2]; exact hRlocals)
  obtain ⟨hwalk, hrun, hended, hWU, hsame⟩ := X₂.athrowLeaves hexec (g := { g with stack := .ref a :: rest, pc := g.pc + 3 }) hg hlocked hentered hout (a := a) (rest := rest) rfl hd9
  obtain ⟨c3, c4, hc3, hc4, hasg⟩ := Cond.castable_spec (a' (.castable cls cls) (by simp [th_NA]))
  cases Option.some.inj (hc3.symm.trans hfound)
  cases Option.some.inj (hc4.symm.trans hfound)
  have hlt : a < ((W.setVm vm₁).setVm vm₂).heap.size := (Array.getElem?_eq_some_iff.mp hcell).1
  have hU := heapAt_setCell_self (s := (W.setVm vm₁).setVm vm₂) (plainBareV T.toThrowableT (freshCell P1.m.cls kX) a u0 sen msg) hlt

  refine ⟨_, st1 _ (fun acts => ?_), hrun, hended, hWU, hsame.weaken (fun y hy hlt' => ?_) (Nat.le_refl _) (Nat.le_refl _), _, hU, hfound, rfl⟩
  · rw [doInvoke_state]
    exact st2 _ hwalk
  · rcases List.mem_append.mp hy with h1 | h1
    · exact h1
    · exfalso
      have hb : y.base = a := by
        simp only [List.mem_cons, List.not_mem_nil, or_false] at h1
        rcases h1 with rfl | rfl | rfl | rfl | rfl <;> rfl
      rw [hb] at hlt'
      exact Nat.not_lt.mpr hnew hlt'
def th_okN (own : String) (ix ic is : Nat) (tx : String) : Prop :=
  Cond.classLink own ix (nn_X 2) ∈ nn_TS ∧ Cond.instantiable (nn_X 2) 6 ∈ nn_TS ∧ Cond.initialized (nn_X 2) ∈ nn_TS ∧ (own, is, tx) ∈ nn_SS ∧ ∀ a ∈ th_NA own ic (nn_X 2) "java/lang/RuntimeException" 13 prog_18_method_4_code ["java/lang/Exception"], a ∈ nn_TS ∨ a ∈ nn_NS ∨ a ∈ nn_ZS
section TH2
variable {l : Launch} {y : MethodName} {cc : ByteArray} {nL : Nat} {ret : Option FieldType} {G : mm_G} {R : Room} {A : Nat → Prop} {Q : mm_O → mm_M → Prop} {mc ms pc : Nat} {lv : List (Nat × Value)} {st : List Value} {M : mm_M}
theorem jj_throwN {ix ic is : Nat} {tx : String} (hfl : l.flags = pinnedFlags ++ [noTraceFlag]) (hd0 : decode cc pc = .ok (.new ix, 3)) (hd3 : decode cc (pc + 3) = .ok (.dup, 1)) (hd4 : decode cc (pc + 4) = .ok (.ldc is, 2)) (hd6 : decode cc (pc + 6) = .ok (.invokespecial ic, 3)) (hd9 : decode cc (pc + 9) = .ok (.athrow, 1))
    (hcode : Cond.code y cc nL ret ∈ nn_TS) (ho : th_okN y.cls ix ic is tx) (h1 : 1 ≤ mc ∧ 6 ≤ ms) (hf : 5 < R.frames) (hlo : (st.map fun v => v.category).sum + 82 ≤ R.locals)
    (hq : ∀ a, mm_k M a = none → Q (.inr (a, 2)) M) : jj_ l y cc nL ret G R A Q mc ms pc lv st M := by
  obtain ⟨hcl, hins, hini, hss, hat⟩ := ho
  intro p e s m args below meth c H locs cells slots ls hE hH hl hL hr T hT X
  obtain ⟨hx, hb, hml, hown, hts, hK, hret, hlk, hnm, hnd, hA⟩ := hE
  obtain ⟨hr1, hr2⟩ := hr
  subst hT
  have htr : e.platform.stackTraces = false := Launch.traces_off hfl X.admits
  have X' := rb_stand X (by omega) (by omega)
  obtain ⟨meth', c', hm', hc', -, -, -, -, hex, -⟩ := Cond.code_spec hnd (hts _ hcode)
  cases X.method.symm.trans hm'
  cases X.code.symm.trans hc'
  have hout : ∀ (pc' : Nat), ∀ x ∈ c.exceptionTable.toList, covers x pc' = false := by
    intro pc' x hx'
    have : c.exceptionTable.toList = [] := by simpa using hex
    rw [this] at hx'
    cases hx'
  have hts' : ∀ w ∈ nn_TS, w.before args (rb_s s T) = true := fun w hw => word_at (U := rb_s s T) (show s.WarmedH (rb_s s T).vm from State.WarmedH.refl s) (nn_good hw) (hts w hw)
  have hown' : (rb_s s T).vm.findClass y.cls = some m.cls := hown
  have hK' : mm_Kn G (rb_s s T) := mm_Kn.same (u := s) rfl hK
  have hat' : ∀ a ∈ th_NA y.cls ic (nn_X 2) "java/lang/RuntimeException" 13 prog_18_method_4_code ["java/lang/Exception"], a.before args (rb_s s T) = true := by
    intro a ha
    rcases hat a ha with h | h | h
    · exact hts' a h
    · have h2 := hK'.2.1 a h
      have hi := (List.mem_filter.mp h).2
      have hon : a.onTables = true := by
        cases a <;> first | (simp [nn_isN] at hi; done) | rfl
      exact va_Nw.use hon h2
    · exact th_zargs a h (hK'.2.2.2.1.1 (rb_s s T) rfl hH.2.1.1 a h)
  obtain ⟨q, hq'⟩ := hK'.2.2.2.2.1 _ hss
  have key : W p l e (rb_R R cells slots) (rb_s s T) m args below meth c T.heap [] 0 0 (fun t => t.status = .running ∧ ∃ (ce : Cell), Ended t below (.threw T.heap.size) ∧ s.WarmedH t.vm ∧ (rb_s s T).sameButNew ({ t with vm := s.vm } : State) [] 1 6 ∧ t.heap[T.heap.size]? = some ce ∧ s.vm.findClass (nn_X 2) = some ce.cls ∧ ce.vm = .none) (F0 m pc ls st) := by
    refine W.newc hx hb hown' (hts' _ hcl) (hts' _ hins) (hts' _ hini) rfl hd0 (show 0 + 1 ≤ R.cells - cells by omega) (show 0 + 6 ≤ R.slots - slots by omega) fun cC kC k1 k2 k3 k4 => ?_
    refine lv_dup hx hb hd3 rfl ?_
    refine va_ldcS hx hb hown' hq' hd4 ?_
    intro T2 hT2 X2
    obtain ⟨U, g1, g2, g3, g4, g5, ce, g6, g7, g8⟩ := th_ctor X2 hx htr (by decide +kernel) (by decide +kernel) (by decide +kernel) (by decide +kernel) hown' (th_fitX 2 (by decide)) (by decide +kernel) (by decide +kernel) hat' (fun x hx => by cases hx) (a := T.heap.size) (cX := cC) (kX := kC) k1 k2 (by rw [hT2]; simp) (Nat.le_refl _) (msg := .ref q) rfl (g := F0 m (pc + 3 + 1 + 2) ls (.ref q :: .ref T.heap.size :: .ref T.heap.size :: st)) rfl (hl.1.trans hml.symm) rfl rfl (rest := st) rfl (by rw [hb]; exact hd6) (by rw [hb]; exact hd9) (hout _) (show 1 + 1 + 3 < R.frames by omega) (show 2 * 0 + (1 + (st.map fun v => v.category).sum) + (13 * (1 + 1 + 1) + 42) ≤ R.locals by omega) hlk
    exact ⟨U, g1, g2, ce, g3, g4, g5, g6, g7, g8⟩
  obtain ⟨t, s1, g2, ce, g3, g4, g5, g6, g7, g8⟩ := key T rfl X'
  refine ⟨t, s1, .threw T.heap.size, g2, g3, ⟨.inr (T.heap.size, 2), M, ⟨rfl, hH.fresh (Nat.le_refl _), ce, g6, g7, g8⟩, hq _ (hH.fresh (Nat.le_refl _)), ?_, ?_, hL.2.1⟩, locs, ⟨g4, (rb_back X g5).mono (by omega) (by omega)⟩, hL.1⟩
  · exact ⟨fun a u ha => (hH.1 a u ha).kept (rb_keep g5 (hH.lt ha)), ⟨by rw [rb_keep g5 (Array.getElem?_eq_some_iff.mp hH.2.1.1).1]; exact hH.2.1.1, hH.2.1.2⟩, ⟨by rw [rb_keep g5 (Array.getElem?_eq_some_iff.mp hH.2.2.1).1]; exact hH.2.2.1, hH.2.2.2⟩⟩
  · have z1 : T.heap.size ≤ t.heap.size := g5.2.1
    have z2 := hL.2.2
    omega
end TH2
