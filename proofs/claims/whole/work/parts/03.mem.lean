abbrev mm_K : Type := Nat ⊕ (Nat × Nat)
abbrev mm_M : Type := (Nat → Option mm_K) × (Nat → Nat → Int32) × (Nat → Nat → Option Nat) × (Nat → Nat → Int64)
def mm_k (M : mm_M) (a : Nat) : Option mm_K := M.1 a
def mm_i (M : mm_M) (a j : Nat) : Int32 := M.2.1 a j
def mm_r (M : mm_M) (a j : Nat) : Option Nat := M.2.2.1 a j
def mm_l (M : mm_M) (a j : Nat) : Int64 := M.2.2.2 a j
def mm_si (M : mm_M) (a k : Nat) (x : Int32) : mm_M := (M.1, fun b j => if b = a ∧ j = k then x else M.2.1 b j, M.2.2.1, M.2.2.2)
def mm_sr (M : mm_M) (a k : Nat) (x : Option Nat) : mm_M := (M.1, M.2.1, fun b j => if b = a ∧ j = k then x else M.2.2.1 b j, M.2.2.2)
def mm_sl (M : mm_M) (a k : Nat) (x : Int64) : mm_M := (M.1, M.2.1, M.2.2.1, fun b j => if b = a ∧ j = k then x else M.2.2.2 b j)
def mm_nw (M : mm_M) (a : Nat) (t : mm_K) : mm_M := (fun b => if b = a then some t else M.1 b, fun b j => if b = a then 0 else M.2.1 b j, fun b j => if b = a then none else M.2.2.1 b j, fun b j => if b = a then 0 else M.2.2.2 b j)
theorem mm_k_si (M : mm_M) (a k b : Nat) (x : Int32) : mm_k (mm_si M a k x) b = mm_k M b := rfl
theorem mm_k_sr (M : mm_M) (a k b : Nat) (x : Option Nat) : mm_k (mm_sr M a k x) b = mm_k M b := rfl
theorem mm_k_sl (M : mm_M) (a k b : Nat) (x : Int64) : mm_k (mm_sl M a k x) b = mm_k M b := rfl
theorem mm_k_nw (M : mm_M) (a b : Nat) (t : mm_K) : mm_k (mm_nw M a t) b = if b = a then some t else mm_k M b := rfl
theorem mm_i_si (M : mm_M) (a k b j : Nat) (x : Int32) : mm_i (mm_si M a k x) b j = if b = a ∧ j = k then x else mm_i M b j := rfl
theorem mm_i_sr (M : mm_M) (a k b j : Nat) (x : Option Nat) : mm_i (mm_sr M a k x) b j = mm_i M b j := rfl
theorem mm_i_sl (M : mm_M) (a k b j : Nat) (x : Int64) : mm_i (mm_sl M a k x) b j = mm_i M b j := rfl
theorem mm_i_nw (M : mm_M) (a b j : Nat) (t : mm_K) : mm_i (mm_nw M a t) b j = if b = a then 0 else mm_i M b j := rfl
theorem mm_r_si (M : mm_M) (a k b j : Nat) (x : Int32) : mm_r (mm_si M a k x) b j = mm_r M b j := rfl
theorem mm_r_sr (M : mm_M) (a k b j : Nat) (x : Option Nat) : mm_r (mm_sr M a k x) b j = if b = a ∧ j = k then x else mm_r M b j := rfl
theorem mm_r_sl (M : mm_M) (a k b j : Nat) (x : Int64) : mm_r (mm_sl M a k x) b j = mm_r M b j := rfl
theorem mm_r_nw (M : mm_M) (a b j : Nat) (t : mm_K) : mm_r (mm_nw M a t) b j = if b = a then none else mm_r M b j := rfl
theorem mm_l_si (M : mm_M) (a k b j : Nat) (x : Int32) : mm_l (mm_si M a k x) b j = mm_l M b j := rfl
theorem mm_l_sr (M : mm_M) (a k b j : Nat) (x : Option Nat) : mm_l (mm_sr M a k x) b j = mm_l M b j := rfl
theorem mm_l_sl (M : mm_M) (a k b j : Nat) (x : Int64) : mm_l (mm_sl M a k x) b j = if b = a ∧ j = k then x else mm_l M b j := rfl
theorem mm_l_nw (M : mm_M) (a b j : Nat) (t : mm_K) : mm_l (mm_nw M a t) b j = if b = a then 0 else mm_l M b j := rfl
def mm_fv (M : mm_M) (a : Nat) (ty : FieldType) (j : Nat) : Value := match ty with
  | .object _ => va_rf (mm_r M a j)
  | .array _ => va_rf (mm_r M a j)
  | _ => .int (mm_i M a j)
def mm_fs (M : mm_M) (a ci : Nat) : List Value := (List.range (nn_N ci)).map (fun j => mm_fv M a (nn_t ci j) j)
def mm_ac (M : mm_M) (a ai n : Nat) : vp_A := match ai with
  | 2 => (n, .inr (.inl (fun j => (mm_i M a j).toInt64)))
  | 3 => (n, .inr (.inr (.inr (.inr (mm_r M a)))))
  | 4 => (n, .inr (.inr (.inr (.inr (mm_r M a)))))
  | 5 => (n, .inr (.inr (.inr (.inr (mm_r M a)))))
  | _ => (n, .inl (mm_i M a))
abbrev mm_G : Type := va_G × (Nat → ClassId) × ((Nat × Cell) × (Nat × Cell))
def mm_e (G : mm_G) (M : mm_M) (a : Nat) (t : mm_K) : va_E := match t with
  | .inl ci => .inr (ci, mm_fs M a ci)
  | .inr q => .inl (G.2.1 q.1, mm_ac M a q.1 q.2)
def mm_H (G : mm_G) (M : mm_M) (H : Heap) : Prop :=
  (∀ (a : Nat) (t : mm_K), mm_k M a = some t → va_at G.1 mm_cl (a, mm_e G M a t) H) ∧ (H[G.2.2.1.1]? = some G.2.2.1.2 ∧ mm_k M G.2.2.1.1 = none) ∧ H[G.2.2.2.1]? = some G.2.2.2.2 ∧ mm_k M G.2.2.2.1 = none
def mm_ty (ai : Nat) : FieldType := match ai with
  | 0 => .int
  | 1 => .boolean
  | 2 => .long
  | 3 => .object "TabletCommits$Tablet"
  | 4 => .object "TabletCommits$Cell"
  | 5 => .object "TabletCommits$Transaction"
  | _ => .int
def mm_tys (G : mm_G) : List (ClassId × FieldType) := (List.range 7).map (fun i => (G.2.1 i, mm_ty i))
theorem mm_tys_at (G : mm_G) {i : Nat} (h : i < 7) : (mm_tys G)[i]? = some (G.2.1 i, mm_ty i) := by
  simp [mm_tys, h]
def mm_Z (G : mm_G) (U : State) : Prop := (∀ U' : State, U'.vm = U.vm → U'.heap[G.2.2.1.1]? = some G.2.2.1.2 → ∀ w ∈ nn_ZS, w.before #[] U' = true) ∧ U.isArrayOf G.2.2.2.2 .int
theorem mm_Z.moved {G : mm_G} {s U : State} (hW : s.WarmedH U.vm) (h : mm_Z G s) : mm_Z G U := by
  refine ⟨?_, State.isArrayOf_alike hW.alike h.2⟩
  intro U' hv hc w hw
  have h1 := h.1 (U'.setVm s.vm) rfl hc w hw
  have hW' : (U'.setVm s.vm).WarmedH U.vm := hW
  have hk : w.keeps = true := by
    simp only [nn_ZS, List.mem_cons, List.not_mem_nil, or_false] at hw
    rcases hw with rfl | rfl | rfl | rfl <;> rfl
  have h2 := Cond.holds_shifted (args := #[]) (o := none) (State.Shifted.of_warmed hW') w [] hk h1
  have e : (U'.setVm s.vm).setVm U.vm = U' := by rw [← hv]; rfl
  rw [e] at h2
  exact h2
def mm_S (U : State) : Prop := ∀ q ∈ nn_SS, ∃ a, vk_R q.1 q.2.1 q.2.2 a U
def nn_X (ei : Nat) : String := match ei with
  | 0 => "java/lang/IllegalArgumentException"
  | 1 => "java/lang/IllegalStateException"
  | 2 => "java/util/NoSuchElementException"
  | _ => "java/lang/UnsupportedOperationException"
def mm_N (U : State) : Prop := ∀ i j, i < 4 → j < 4 → i ≠ j → va_Nc (nn_X i) (nn_X j) U
def mm_Kn (G : mm_G) (U : State) : Prop :=
  va_K G.1 mm_cl (mm_tys G) U ∧ (∀ w ∈ nn_NS, va_Nw w U) ∧ (va_AO "TabletCommits$Tablet" U ∧ va_AO "TabletCommits$Cell" U ∧ va_AO "TabletCommits$Transaction" U) ∧ mm_Z G U ∧ mm_S U ∧ mm_N U
theorem mm_Kn.moved {G : mm_G} {s U : State} (hW : s.WarmedH U.vm) (h : mm_Kn G s) : mm_Kn G U :=
  ⟨va_K.moved hW.alike h.1, fun w hw => nn_Nmoved hw hW (h.2.1 w hw), ⟨va_AO.moved hW.alike h.2.2.1.1, va_AO.moved hW.alike h.2.2.1.2.1, va_AO.moved hW.alike h.2.2.1.2.2⟩, h.2.2.2.1.moved hW, (fun q hq => by
    obtain ⟨a, ha⟩ := h.2.2.2.2.1 q hq
    exact ⟨a, ha.warm hW⟩), fun i j hi hj hij => (h.2.2.2.2.2 i j hi hj hij).moved hW.alike⟩
theorem mm_Kn.same {G : mm_G} {u U : State} (hv : u.vm = U.vm) (h : mm_Kn G u) : mm_Kn G U := by
  have hal : u.vm.Alike U.vm := by rw [hv]; exact Vm.Alike.refl _
  refine ⟨va_K.moved hal h.1, fun w hw => ?_, ⟨va_AO.moved hal h.2.2.1.1, va_AO.moved hal h.2.2.1.2.1, va_AO.moved hal h.2.2.1.2.2⟩, ⟨fun U' hv' hc w hw => h.2.2.2.1.1 U' (hv'.trans hv.symm) hc w hw, State.isArrayOf_alike hal h.2.2.2.1.2⟩, fun q hq => ?_, fun i j hi hj hij => (h.2.2.2.2.2 i j hi hj hij).moved hal⟩
  · refine va_Nw.same ?_ hv (h.2.1 w hw)
    have hi := (List.mem_filter.mp hw).2
    cases w <;> first | (simp [nn_isN] at hi; done) | rfl
  · obtain ⟨a, ha⟩ := h.2.2.2.2.1 q hq
    exact ⟨a, vk_R.same hv.symm ha⟩
theorem mm_one {G : mm_G} {H : Heap} {a : Nat} {x : va_E} (h : va_at G.1 mm_cl (a, x) H) : va_P G.1 mm_cl [(a, x)] H := by
  intro i q hq
  cases i with
  | zero =>
    cases hq
    exact h
  | succ i => simp at hq
theorem mm_H.get {G : mm_G} {M : mm_M} {H : Heap} (h : mm_H G M H) {a : Nat} {t : mm_K} (hk : mm_k M a = some t) : va_P G.1 mm_cl [(a, mm_e G M a t)] H := mm_one (h.1 a t hk)
theorem mm_H.lt {G : mm_G} {M : mm_M} {H : Heap} (h : mm_H G M H) {a : Nat} {t : mm_K} (hk : mm_k M a = some t) : a < H.size := (h.1 a t hk).lt
theorem mm_H.fresh {G : mm_G} {M : mm_M} {H : Heap} (h : mm_H G M H) {a : Nat} (ha : H.size ≤ a) : mm_k M a = none := by
  cases hk : mm_k M a with
  | none => rfl
  | some t => exact absurd (h.lt hk) (by omega)
theorem mm_H.put {G : mm_G} {M M' : mm_M} {H H' : Heap} {a : Nat} {t : mm_K} (h : mm_H G M H) (hk : mm_k M a = some t) (h1 : ∀ b, mm_k M' b = mm_k M b) (h2 : ∀ b, b ≠ a → ∀ u, mm_e G M' b u = mm_e G M b u)
    (h3 : va_at G.1 mm_cl (a, mm_e G M' a t) H') (h4 : ∀ q : Nat, q ≠ a → H'[q]? = H[q]?) : mm_H G M' H' := by
  have key : ∀ {w : Nat} {x : Cell}, H[w]? = some x ∧ mm_k M w = none → H'[w]? = some x ∧ mm_k M' w = none := fun {w x} hw => by
    have hne : w ≠ a := fun e => by
      have h5 := hw.2
      rw [e, hk] at h5
      cases h5
    exact ⟨by rw [h4 _ hne]; exact hw.1, by rw [h1]; exact hw.2⟩
  refine ⟨fun b u hb => ?_, key h.2.1, key h.2.2⟩
  by_cases e : b = a
  · subst e
    rw [h1, hk] at hb
    cases hb
    exact h3
  · rw [h1] at hb
    rw [h2 b e]
    exact (h.1 b u hb).kept (h4 b e)
theorem mm_e_nw {G : mm_G} {M : mm_M} {a b : Nat} {t : mm_K} (hb : b ≠ a) (u : mm_K) : mm_e G (mm_nw M a t) b u = mm_e G M b u := by
  have e1 : ∀ j, mm_i (mm_nw M a t) b j = mm_i M b j := fun j => by rw [mm_i_nw, if_neg hb]
  have e2 : ∀ j, mm_r (mm_nw M a t) b j = mm_r M b j := fun j => by rw [mm_r_nw, if_neg hb]
  have f1 : mm_i (mm_nw M a t) b = mm_i M b := funext e1
  have f2 : mm_r (mm_nw M a t) b = mm_r M b := funext e2
  cases u with
  | inl ci =>
    show Sum.inr (ci, mm_fs (mm_nw M a t) b ci) = Sum.inr (ci, mm_fs M b ci)
    have : mm_fs (mm_nw M a t) b ci = mm_fs M b ci := by
      unfold mm_fs mm_fv
      rw [f1, f2]
    rw [this]
  | inr q =>
    show Sum.inl (G.2.1 q.1, mm_ac (mm_nw M a t) b q.1 q.2) = Sum.inl (G.2.1 q.1, mm_ac M b q.1 q.2)
    have : mm_ac (mm_nw M a t) b q.1 q.2 = mm_ac M b q.1 q.2 := by
      unfold mm_ac
      rw [f1, f2]
    rw [this]
theorem mm_H.new {G : mm_G} {M : mm_M} {H H' : Heap} {t : mm_K} (h : mm_H G M H) (h3 : va_at G.1 mm_cl (H.size, mm_e G (mm_nw M H.size t) H.size t) H') (h4 : ∀ q : Nat, q < H.size → H'[q]? = H[q]?) : mm_H G (mm_nw M H.size t) H' := by
  have key : ∀ {w : Nat} {x : Cell}, H[w]? = some x ∧ mm_k M w = none → H'[w]? = some x ∧ mm_k (mm_nw M H.size t) w = none := fun {w x} hw => by
    have hs : w < H.size := (Array.getElem?_eq_some_iff.mp hw.1).1
    exact ⟨by rw [h4 _ hs]; exact hw.1, by rw [mm_k_nw, if_neg (Nat.ne_of_lt hs)]; exact hw.2⟩
  refine ⟨fun b u hb => ?_, key h.2.1, key h.2.2⟩
  rw [mm_k_nw] at hb
  by_cases e : b = H.size
  · subst e
    rw [if_pos rfl] at hb
    cases hb
    exact h3
  · rw [if_neg e] at hb
    rw [mm_e_nw e]
    exact (h.1 b u hb).kept (h4 b (h.lt hb))
theorem mm_fsV {M : mm_M} {a ci j : Nat} (hj : j < nn_N ci) : vp_V (mm_fs M a ci) j = mm_fv M a (nn_t ci j) j := by
  simp [vp_V, mm_fs, hj]
theorem mm_fsL {M : mm_M} {a ci : Nat} : (mm_fs M a ci).length = nn_N ci := by simp [mm_fs]
theorem mm_fsG {M : mm_M} {a ci j : Nat} (hj : j < nn_N ci) : (mm_fs M a ci)[j]? = some (mm_fv M a (nn_t ci j) j) := by
  simp [mm_fs, hj]
theorem mm_fv_nw {M : mm_M} {a : Nat} {t : mm_K} {ty : FieldType} {j : Nat} (h : nn_ok ty = true) : defaultValue ty = mm_fv (mm_nw M a t) a ty j := by
  have e1 : mm_i (mm_nw M a t) a j = 0 := by rw [mm_i_nw, if_pos rfl]
  have e2 : mm_r (mm_nw M a t) a j = none := by rw [mm_r_nw, if_pos rfl]
  cases ty <;> first | (simp [nn_ok] at h; done) | (simp [defaultValue, mm_fv, e1, e2, va_rf]; done) | rfl
def mm_ro (t : mm_K) : Bool := match t with
  | .inr (6, _) => true
  | _ => false
def mm_w (M : mm_M) (q : Nat) : Prop := ∃ t, mm_k M q = some t ∧ mm_ro t = false
def mm_A (M : mm_M) (sz : Nat) (q : Nat) : Prop := mm_w M q ∨ sz ≤ q
abbrev mm_O : Type := Option Value ⊕ (Nat × Nat)
def mm_oo (s t : State) (M : mm_M) (o : Outcome) (oo : mm_O) : Prop := match oo with
  | .inl v => o = .returned v
  | .inr q => o = .threw q.1 ∧ mm_k M q.1 = none ∧ ∃ ce : Cell, t.heap[q.1]? = some ce ∧ s.vm.findClass (nn_X q.2) = some ce.cls ∧ ce.vm = .none
def mm_Q (G : mm_G) (Q : mm_O → mm_M → Prop) (A : Nat → Prop) : Array Value → State → Outcome → State → Prop := fun _ s o t =>
  ∃ (oo : mm_O) (M : mm_M), mm_oo s t M o oo ∧ Q oo M ∧ mm_H G M t.heap ∧ s.heap.size ≤ t.heap.size ∧ ∀ q, mm_w M q → A q
def mm_X (below : List Frame) (Qc : Array Value → State → Outcome → State → Prop) (args : Array Value) (s : State) (mc ms : Nat) (A : Nat → Prop) : State → Prop := fun t =>
  ∃ o, t.status = .running ∧ Ended t below o ∧ Qc args s o t ∧ ∃ L : List Loc, (s.WarmedH t.vm ∧ s.sameButNew ({ t with vm := s.vm } : State) L mc ms) ∧ ∀ q ∈ L, A q.base
theorem mm_X.of {below : List Frame} {Qc : Array Value → State → Outcome → State → Prop} {args : Array Value} {s t : State} {mc ms : Nat} {A : Nat → Prop} (h : MQ below Qc args s mc ms A t) : mm_X below Qc args s mc ms A t := by
  obtain ⟨o, h1, h2, h3, L, h4, h5⟩ := h
  exact ⟨o, h1, h2, h3, L, h4.2, h5⟩
def mm_E (p : Program) (s : State) (m : MethodId) (args : Array Value) (meth : Method) (c : Code) (y : MethodName) (cc : ByteArray) (nL : Nat) (ret : Option FieldType) (G : mm_G) (A : Nat → Prop) : Prop :=
  p.tables.exec = Jvm.exec ∧ c.code = cc ∧ c.maxLocals = nL ∧ s.vm.findClass y.cls = some m.cls ∧ (∀ w ∈ nn_TS, w.before args s = true) ∧ mm_Kn G s ∧ meth.sig.returnType = ret ∧ meth.locks = false ∧ meth.name = y.name ∧ s.methodNamed? y = some m ∧ ∀ q, s.heap.size ≤ q → A q
def mm_L (s : State) (A : Nat → Prop) (M : mm_M) (H : Heap) (locs : List Loc) : Prop := (∀ q ∈ locs, A q.base) ∧ (∀ q, mm_w M q → A q) ∧ s.heap.size ≤ H.size
def jj_ (l : Launch) (y : MethodName) (cc : ByteArray) (nL : Nat) (ret : Option FieldType) (G : mm_G) (R : Room) (A : Nat → Prop) (Q : mm_O → mm_M → Prop) (mc ms pc : Nat) (lv : List (Nat × Value)) (st : List Value) (M : mm_M) : Prop :=
  ∀ (p : Program) (e : Env) (s : State) (m : MethodId) (args : Array Value) (below : List Frame) (meth : Method) (c : Code) (H : Heap) (locs : List Loc) (cells slots : Nat) (ls : Array Slot),
    mm_E p s m args meth c y cc nL ret G A → mm_H G M H → lv_has ls nL lv → mm_L s A M H locs → (cells + mc ≤ R.cells ∧ slots + ms ≤ R.slots) →
    W p l e R s m args below meth c H locs cells slots (mm_X below (mm_Q G Q A) args s R.cells R.slots A) (F0 m pc ls st)
def mm_R (d mc ms : Nat) : Room := { frames := d, cells := mc, slots := ms, locals := 34 * d }
def mm_Pc (G : mm_G) (M : mm_M) (sz : Nat) (vs : List Value) : Array Value → State → Prop := va_Pc vs (fun U => U.heap.size = sz ∧ mm_H G M U.heap ∧ mm_Kn G U)
def mm_ret (Q : Option Value → mm_M → Prop) : mm_O → mm_M → Prop := fun o M => match o with
  | .inl v => Q v M
  | .inr _ => False
def ct_ (l : Launch) (y : MethodName) (cc : ByteArray) (nL : Nat) (ret : Option FieldType) (d mc ms : Nat) (vs : List Value) (M : mm_M) (Q : Option Value → mm_M → Prop) : Prop :=
  ∀ (G : mm_G) (sz : Nat), Met l y (.code y cc nL ret :: nn_TS) (mm_R d mc ms) (mm_Pc G M sz vs) (mm_Q G (mm_ret Q) (mm_A M sz)) mc ms (mm_A M sz)
theorem mm_blind {G : mm_G} {M : mm_M} {sz : Nat} {vs : List Value} : FrameBlind (mm_Pc G M sz vs) := by
  intro a U g mk h
  obtain ⟨h1, h2, h3, h4⟩ := h
  exact ⟨h1, h2, h3, mm_Kn.same (u := U) (U := U.calling g mk a) rfl h4⟩
section MMW
variable {p : Program} {l : Launch} {e : Env} {R : Room} {s : State} {m : MethodId} {args : Array Value} {below : List Frame} {meth : Method} {c : Code} {H : Heap} {locs : List Loc} {cells slots : Nat}
theorem mm_mono {Q Q' : State → Prop} {g : JFrame} (h : ∀ t, Q t → Q' t) (k : W p l e R s m args below meth c H locs cells slots Q g) : W p l e R s m args below meth c H locs cells slots Q' g := by
  intro T hT X
  obtain ⟨t, a, b⟩ := k T hT X
  exact ⟨t, a, h t b⟩
end MMW
theorem ct_of {l : Launch} {y : MethodName} {cc : ByteArray} {nL : Nat} {ret : Option FieldType} {d mc ms : Nat} {vs : List Value} {M : mm_M} {Q : Option Value → mm_M → Prop} (hy : plainName y.cls = true) (hn : (lg_sl vs).length ≤ nL)
    (h : ∀ (G : mm_G) (A : Nat → Prop), jj_ l y cc nL ret G (mm_R d mc ms) A (mm_ret Q) mc ms 0 (lv_args 0 vs) [] M) : ct_ l y cc nL ret d mc ms vs M Q := by
  intro G sz
  refine Met.ofW (cc := cc) (maxL := nL) (ret := ret) hy rfl ?_
  intro p e s m args below meth c s₁ B hml hv
  obtain ⟨rfl, hsz, hH, hK⟩ := hv
  subst hsz
  rw [lg_entry_eq]
  have hts := atoms_spec (ws := .code y cc nL ret :: nn_TS) B.pre
  have k := h G (mm_A M s.heap.size) p e s m vs.toArray below meth c s.heap [] 0 0 _
    ⟨B.exec, B.bytes, hml, findClass_of_methodNamed B.named, fun w hw => hts w (List.mem_cons_of_mem _ hw), hK, B.returns, B.notSynchronized, (name_of_methodNamed B.named B.method).1, B.named, fun q hq => Or.inr hq⟩
    hH (lv_entry vs hn) ⟨(fun q hq => by cases hq), (fun q hq => Or.inl hq), Nat.le_refl _⟩ ⟨Nat.le_of_eq (Nat.zero_add _), Nat.le_of_eq (Nat.zero_add _)⟩
  refine mm_mono (fun t ht => ?_) k
  obtain ⟨o, h1, h2, ⟨oo, M', h3, h4, h5⟩, L, h6, h7⟩ := ht
  cases oo with
  | inr q => exact h4.elim
  | inl v => exact ⟨o, h1, h2, ⟨.inl v, M', h3, h4, h5⟩, L, ⟨⟨v, h3⟩, h6⟩, h7⟩
