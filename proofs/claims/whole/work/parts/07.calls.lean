theorem nn_GJ {z : Cond} (hz : z ∈ nn_TS) : GoodIn nn_TS (z :: nn_TS) := by
  intro w hw
  rcases List.mem_cons.mp hw with rfl | hw
  · exact ⟨hz, nn_good hz⟩
  · exact ⟨hw, nn_good hw⟩
def mm_Cs (own : String) (idx : Nat) (z : MethodName) (zc : ByteArray) (znL : Nat) (zret : Option FieldType) (n : Nat) : Prop :=
  Cond.code z zc znL zret ∈ nn_TS ∧ Cond.initialized z.cls ∈ nn_TS ∧ (z.cls ≠ "java/lang/invoke/MethodHandle" ∧ z.cls ≠ "java/lang/invoke/VarHandle" ∧ (parseMethodDescriptor z.desc).map (fun d => d.parameters.length) = some n) ∧
  (Cond.methodLink own idx z ∈ nn_TS ∨ ∃ host, Cond.methodLinkNest own idx z host ∈ nn_NS)
section JC
variable {l : Launch} {y : MethodName} {cc : ByteArray} {nL : Nat} {ret : Option FieldType} {G : mm_G} {R : Room} {A : Nat → Prop} {Q : mm_O → mm_M → Prop} {mc ms pc : Nat} {lv : List (Nat × Value)} {st : List Value} {M : mm_M}
theorem mm_after {p : Program} {e : Env} {s : State} {m : MethodId} {args : Array Value} {below : List Frame} {meth : Method} {c : Code} {H : Heap} {locs : List Loc} {cells slots : Nat} {ls : Array Slot} {mc' ms' mcr msr : Nat} {st0 rest : List Value} {a : Array Value}
    (hr : va_Run p l e R s m args below meth c H locs cells slots mc' ms' (F0 m pc ls st0) rest (mm_Q G (mm_ret (fun v M' => jj_ l y cc nL ret G R A Q mcr msr (pc + 3) lv (v.toList ++ rest) M')) (mm_A M H.size) a) (mm_A M H.size))
    (hE : mm_E p s m args meth c y cc nL ret G A) (hl : lv_has ls nL lv) (hL : mm_L s A M H locs) (h1 : cells + mc' + mcr ≤ R.cells) (h2 : slots + ms' + msr ≤ R.slots) :
    W p l e R s m args below meth c H locs cells slots (mm_X below (mm_Q G Q A) args s R.cells R.slots A) (F0 m pc ls st0) := by
  have hA := hE.2.2.2.2.2.2.2.2.2.2
  intro T hT X
  obtain ⟨v, st₀, t, T', L, h0, X', hL', e1, e2, ⟨oo, M', ho, hq, hH', hz, hw'⟩, stp⟩ := hr T hT X
  have hAA : ∀ q, mm_A M H.size q → A q := fun q hq => by
    rcases hq with h3 | h3
    · exact hL.2.1 q h3
    · exact hA q (Nat.le_trans hL.2.2 h3)
  cases oo with
  | inr q => exact hq.elim
  | inl v' =>
    have hv : Outcome.returned v = Outcome.returned v' := ho
    cases hv
    rw [h0] at hz
    obtain ⟨t2, a1, b1⟩ := hq p e s m args below meth c T'.heap (locs ++ L) (cells + mc') (slots + ms') ls hE (by rw [e1]; exact hH') hl
      ⟨fun q hq2 => by
        rcases List.mem_append.mp hq2 with h3 | h3
        · exact hL.1 q h3
        · exact hAA _ (hL' q h3), fun q hq2 => hAA q (hw' q hq2), by rw [e1]; exact Nat.le_trans hL.2.2 hz⟩ ⟨h1, h2⟩ T' rfl X'
    exact ⟨t2, stp t2 a1, b1⟩
theorem mm_pre {G : mm_G} {M : mm_M} {H : Heap} {s : State} {vs : List Value} (hH : mm_H G M H) (hK : mm_Kn G s) : PreS s H (mm_Pc G M H.size vs) vs :=
  ⟨mm_blind, fun U hU hW => ⟨rfl, by rw [hU], by rw [hU]; exact hH, hK.moved hW⟩⟩
theorem jj_callV {z : MethodName} {zc : ByteArray} {znL : Nat} {zret : Option FieldType} {d mc' ms' n idx b ci : Nat} (As rest : List Value) (mcr msr : Nat) (hd : decode cc pc = .ok (.invokevirtual idx, 3)) (hc : mm_Cs y.cls idx z zc znL zret n) (hi : Cond.instanceMethod z ∈ nn_TS ∧ Cond.selects z.cls z z ∈ nn_TS)
    (hk : mm_k M b = some (.inl ci)) (h8 : ci < 8 ∧ nn_C ci = z.cls) (hn : As.length = n) (hcat : (rest.map fun v => v.category).sum ≤ 8) (hR : d + 1 ≤ R.frames ∧ 8 + (znL + 11) + 34 * d ≤ R.locals) (h12 : mc' + mcr ≤ mc ∧ ms' + msr ≤ ms) (hst : st = As.reverse ++ .ref b :: rest)
    (hM : ct_ l z zc znL zret d mc' ms' (.ref b :: As) M (fun v M' => jj_ l y cc nL ret G R A Q mcr msr (pc + 3) lv (v.toList ++ rest) M')) : jj_ l y cc nL ret G R A Q mc ms pc lv st M := by
  subst hst
  obtain ⟨hcode, hini, hdd, hlnk⟩ := hc
  obtain ⟨h8, hci⟩ := h8
  intro p e s m args below meth c H locs cells slots ls hE hH hl hL hr
  have hE0 := hE
  obtain ⟨hx, hb, hml, hown, hts, hK, -⟩ := hE
  obtain ⟨hr1, hr2⟩ := hr
  have hrecv := va_recv (q0 := 0) (a := b) (fs := mm_fs M b ci) hK.1 (hH.get hk) (mm_cl_at h8) rfl
  dsimp only at hrecv
  rw [hci] at hrecv
  have hp : PreV s H z.cls b (mm_Pc G M H.size (.ref b :: As)) As := ⟨mm_blind, hrecv, (mm_pre hH hK).2⟩
  rcases hlnk with hlnk | ⟨host, hlnk⟩
  · exact mm_after (va_runV (As := As) (rest := rest) ⟨hx, hb, hml, hown, hts⟩ (hM G H.size) ⟨callB_of n hts (nn_GJ hcode) rfl rfl rfl (hts _ hini) (hts _ hlnk) hdd hR, hts _ hi.1, hts _ hi.2⟩ hp rfl hn hl.1 rfl (lv_room hcat) hd ⟨by omega, by omega⟩) hE0 hl hL (by omega) (by omega)
  · exact mm_after (va_runVN (As := As) (rest := rest) ⟨hx, hb, hml, hown, hts⟩ (hM G H.size) ⟨va_cnB n hts (nn_GJ hcode) rfl rfl rfl (hK.2.1 _ hlnk) (hts _ hini) hdd hR, hts _ hi.1, hts _ hi.2⟩ hp rfl hn hl.1 rfl (lv_room hcat) hd ⟨by omega, by omega⟩) hE0 hl hL (by omega) (by omega)
theorem jj_callS {z : MethodName} {zc : ByteArray} {znL : Nat} {zret : Option FieldType} {d mc' ms' n idx : Nat} (As rest : List Value) (mcr msr : Nat) (hd : decode cc pc = .ok (.invokestatic idx, 3)) (hc : mm_Cs y.cls idx z zc znL zret n) (hi : Cond.static z ∈ nn_TS)
    (hn : As.length = n) (hcat : (rest.map fun v => v.category).sum ≤ 8) (hR : d + 1 ≤ R.frames ∧ 8 + (znL + 11) + 34 * d ≤ R.locals) (h12 : mc' + mcr ≤ mc ∧ ms' + msr ≤ ms) (hst : st = As.reverse ++ rest)
    (hM : ct_ l z zc znL zret d mc' ms' As M (fun v M' => jj_ l y cc nL ret G R A Q mcr msr (pc + 3) lv (v.toList ++ rest) M')) : jj_ l y cc nL ret G R A Q mc ms pc lv st M := by
  subst hst
  obtain ⟨hcode, hini, hdd, hlnk⟩ := hc
  intro p e s m args below meth c H locs cells slots ls hE hH hl hL hr
  have hE0 := hE
  obtain ⟨hx, hb, hml, hown, hts, hK, -⟩ := hE
  obtain ⟨hr1, hr2⟩ := hr
  rcases hlnk with hlnk | ⟨host, hlnk⟩
  · exact mm_after (va_runS (As := As) (rest := rest) ⟨hx, hb, hml, hown, hts⟩ (hM G H.size) ⟨callB_of n hts (nn_GJ hcode) rfl rfl rfl (hts _ hini) (hts _ hlnk) hdd hR, hts _ hi⟩ (mm_pre hH hK) rfl hn hl.1 rfl (lv_room hcat) hd ⟨by omega, by omega⟩) hE0 hl hL (by omega) (by omega)
  · exact mm_after (va_runSN (As := As) (rest := rest) ⟨hx, hb, hml, hown, hts⟩ (hM G H.size) ⟨va_cnB n hts (nn_GJ hcode) rfl rfl rfl (hK.2.1 _ hlnk) (hts _ hini) hdd hR, hts _ hi, trivial⟩ (mm_pre hH hK) rfl hn hl.1 rfl (lv_room hcat) hd ⟨by omega, by omega⟩) hE0 hl hL (by omega) (by omega)
theorem jj_callI {z : MethodName} {zc : ByteArray} {znL : Nat} {d mc' ms' n idx b : Nat} (As rest : List Value) (mcr msr : Nat) (hd : decode cc pc = .ok (.invokespecial idx, 3)) (hc : mm_Cs y.cls idx z zc znL none n) (hi : Cond.instanceMethod z ∈ nn_TS ∧ z.name = "<init>")
    (hn : As.length = n) (hcat : (rest.map fun v => v.category).sum ≤ 8) (hR : d + 1 ≤ R.frames ∧ 8 + (znL + 11) + 34 * d ≤ R.locals) (h12 : mc' + mcr ≤ mc ∧ ms' + msr ≤ ms) (hst : st = As.reverse ++ .ref b :: rest)
    (hM : ct_ l z zc znL none d mc' ms' (.ref b :: As) M (fun v M' => jj_ l y cc nL ret G R A Q mcr msr (pc + 3) lv (v.toList ++ rest) M')) : jj_ l y cc nL ret G R A Q mc ms pc lv st M := by
  subst hst
  obtain ⟨hcode, hini, hdd, hlnk⟩ := hc
  intro p e s m args below meth c H locs cells slots ls hE hH hl hL hr
  have hE0 := hE
  obtain ⟨hx, hb, hml, hown, hts, hK, -⟩ := hE
  obtain ⟨hr1, hr2⟩ := hr
  rcases hlnk with hlnk | ⟨host, hlnk⟩
  · exact mm_after (va_runI (As := As) (rest := rest) ⟨hx, hb, hml, hown, hts⟩ (hM G H.size) ⟨callB_of n hts (nn_GJ hcode) rfl rfl rfl (hts _ hini) (hts _ hlnk) hdd hR, hi.2, hts _ hi.1⟩ (mm_pre hH hK) rfl hn hl.1 rfl (lv_room hcat) hd ⟨by omega, by omega⟩) hE0 hl hL (by omega) (by omega)
  · exact mm_after (va_runIN (As := As) (rest := rest) ⟨hx, hb, hml, hown, hts⟩ (hM G H.size) ⟨va_cnB n hts (nn_GJ hcode) rfl rfl rfl (hK.2.1 _ hlnk) (hts _ hini) hdd hR, hi.2, hts _ hi.1⟩ (mm_pre hH hK) rfl hn hl.1 rfl (lv_room hcat) hd ⟨by omega, by omega⟩) hE0 hl hL (by omega) (by omega)
theorem jj_objI {idx a : Nat} (hd : decode cc pc = .ok (.invokespecial idx, 3)) (hw : Cond.methodLink y.cls idx Lib.objectInit ∈ nn_TS ∧ Cond.instanceMethod Lib.objectInit ∈ nn_TS ∧ Cond.code Lib.objectInit ⟨#[0xb1]⟩ 1 none ∈ nn_TS) (hf : 1 ≤ R.frames) (hlo : (st.map fun v => v.category).sum + 12 ≤ R.locals)
    (kk : jj_ l y cc nL ret G R A Q mc ms (pc + 3) lv st M) : jj_ l y cc nL ret G R A Q mc ms pc lv (.ref a :: st) M := by
  intro p e s m args below meth c H locs cells slots ls hE hH hl hL hr
  have w := kk p e s m args below meth c H locs cells slots ls hE hH hl hL hr
  obtain ⟨hx, hb, hml, hown, hts, hK, -⟩ := hE
  refine W.objInit hx hb hown (hts _ hw.1) (hts _ hw.2.1) (hts _ hw.2.2) rfl (by rw [hml]; exact hl.1) rfl hd hf ?_ w
  show 2 * 0 + _ + 12 ≤ _
  omega
theorem jj_mmax {idx : Nat} {x z : Int32} (hd : decode cc pc = .ok (.invokestatic idx, 3)) (hw : Cond.methodLink y.cls idx Lib.Math.max.name ∈ nn_TS ∧ Cond.static Lib.Math.max.name ∈ nn_TS ∧ Cond.initialized "java/lang/Math" ∈ nn_TS ∧ Cond.code Lib.Math.max.name Lib.Math.max.code 2 (some .int) ∈ nn_TS) (hf : 1 ≤ R.frames) (hlo : (st.map fun v => v.category).sum + 13 ≤ R.locals)
    (kk : jj_ l y cc nL ret G R A Q mc ms (pc + 3) lv (.int (if x < z then z else x) :: st) M) : jj_ l y cc nL ret G R A Q mc ms pc lv (.int z :: .int x :: st) M := by
  intro p e s m args below meth c H locs cells slots ls hE hH hl hL hr
  have w := kk p e s m args below meth c H locs cells slots ls hE hH hl hL hr
  obtain ⟨hx, hb, hml, hown, hts, hK, -⟩ := hE
  obtain ⟨hr1, hr2⟩ := hr
  exact va_mmax hx hb (by rw [hml]; exact hl.1.symm) hown (hts _ hw.1) (hts _ hw.2.1) (hts _ hw.2.2.1) (hts _ hw.2.2.2) hf hlo (by omega) (by omega) hd w
theorem jj_mmin {idx : Nat} {x z : Int32} (hd : decode cc pc = .ok (.invokestatic idx, 3)) (hw : Cond.methodLink y.cls idx Lib.Math.min.name ∈ nn_TS ∧ Cond.static Lib.Math.min.name ∈ nn_TS ∧ Cond.initialized "java/lang/Math" ∈ nn_TS ∧ Cond.code Lib.Math.min.name Lib.Math.min.code 2 (some .int) ∈ nn_TS) (hf : 1 ≤ R.frames) (hlo : (st.map fun v => v.category).sum + 13 ≤ R.locals)
    (kk : jj_ l y cc nL ret G R A Q mc ms (pc + 3) lv (.int (if z < x then z else x) :: st) M) : jj_ l y cc nL ret G R A Q mc ms pc lv (.int z :: .int x :: st) M := by
  intro p e s m args below meth c H locs cells slots ls hE hH hl hL hr
  have w := kk p e s m args below meth c H locs cells slots ls hE hH hl hL hr
  obtain ⟨hx, hb, hml, hown, hts, hK, -⟩ := hE
  obtain ⟨hr1, hr2⟩ := hr
  exact va_mmin hx hb (by rw [hml]; exact hl.1.symm) hown (hts _ hw.1) (hts _ hw.2.1) (hts _ hw.2.2.1) (hts _ hw.2.2.2) hf hlo (by omega) (by omega) hd w
end JC
