theorem tb_in {w : Cond} (i : Nat) (h : tables_1[i]? = some w) : w ∈ lw_tbl := List.mem_append_right _ (List.mem_of_getElem? h)
theorem nn_sub {w : Cond} (h : w ∈ nn_TS) : w ∈ lw_tbl := (List.mem_filter.mp h).1
theorem cn_all : ∀ ci, ci < 8 → Cond.instantiable (nn_C ci) (nn_N ci) ∈ nn_TS
  | 0, _ => cn_0
  | 1, _ => cn_1
  | 2, _ => cn_2
  | 3, _ => cn_3
  | 4, _ => cn_4
  | 5, _ => cn_5
  | 6, _ => cn_6
  | 7, _ => cn_7
  | _ + 8, h => absurd h (by omega)
theorem st_ff {s U : State} (hv : U.vm = s.vm) (a b d : String) : U.fieldFound? a b d = s.fieldFound? a b d := by
  unfold State.fieldFound?
  rw [hv]
theorem st_cls {s : State} {cls name desc : String} {c i : Nat} {k : Class} {f : Field} (h : s.fieldFound? cls name desc = some (c, k, i, f)) : s.vm.classes[c]? = some k := by
  simp only [State.fieldFound?, Option.bind_eq_bind, Option.bind_eq_some_iff, Option.pure_def, Option.some.injEq, Prod.mk.injEq] at h
  obtain ⟨_, _, _, _, ⟨c', i'⟩, _, k', hk, f', _, rfl, rfl, rfl, rfl⟩ := h
  exact hk
theorem st_lays {s U : State} {A : Array Value} {o n d : String} {ad : Nat} {cell : Cell} (hv : U.vm = s.vm) (hst : ∀ c k i f, s.fieldFound? o n d = some (c, k, i, f) → k.statics = some ad) (hs : s.heap[ad]? = some cell) (hu : U.heap[ad]? = some cell) (h : (Cond.laysStatic o n d).before A s = true) : (Cond.laysStatic o n d).before #[] U = true := by
  simp only [Cond.before, Cond.holds, Cond.value] at h ⊢
  rw [hv, st_ff hv]
  cases hc : s.vm.findClass o with
  | none => simp [hc] at h
  | some c =>
    cases hf : s.fieldFound? o n d with
    | none => simp [hc, hf] at h
    | some x =>
      obtain ⟨c', k, i, f⟩ := x
      have ha := hst _ _ _ _ hf
      simp only [hc, hf, ha, Option.bind_some, hs] at h
      simp only [ha, Option.bind_some, hu]
      exact h
theorem st_ref {s U : State} {A : Array Value} {o n d : String} {ad : Nat} {cell : Cell} (hv : U.vm = s.vm) (hst : ∀ c k i f, s.fieldFound? o n d = some (c, k, i, f) → k.statics = some ad) (hs : s.heap[ad]? = some cell) (hu : U.heap[ad]? = some cell) (h : (Cond.isRef (.static o n d)).before A s = true) : (Cond.isRef (.static o n d)).before #[] U = true := by
  have key : (Term.static o n d).eval #[] U none [] U = (Term.static o n d).eval A s none [] s := by
    simp only [Term.eval, State.fieldNamed?]
    rw [st_ff hv]
    cases hf : s.fieldFound? o n d with
    | none => rfl
    | some x =>
      obtain ⟨c', k, i, f⟩ := x
      have ha := hst _ _ _ _ hf
      cases hi : f.isStatic with
      | true => simp [hi, ha, hs, hu]
      | false => simp [hi]
  simp only [Cond.before, Cond.holds, Cond.value] at h ⊢
  rw [key]
  exact h
theorem st_arr {s : State} {A : Array Value} {ty : FieldType} (h : (Cond.arrayClass ty).before A s = true) : ∃ c k comp, s.vm.findClass ("[" ++ ty.toString) = some c ∧ s.vm.classes[c]? = some k ∧ k.kind = .array comp ty := Cond.arrayClass_spec h
theorem st_of {s : State} {c : ClassId} {k : Class} {comp : ClassId} {ty : FieldType} (h1 : s.vm.classes[c]? = some k) (h2 : k.kind = .array comp ty) : ArrOfT s c ty := fun n z => ⟨fun q h => (by cases h), k, h1, comp, h2⟩
theorem st_prim {s : State} {A : Array Value} {ty : FieldType} (hp : va_RA s = va_RA s) (h : (Cond.arrayClass ty).before A s = true) (hra : ∀ c, s.vm.findClass ("[" ++ ty.toString) = some c → va_RA s c ty) : ∃ c, ArrOfT s c ty ∧ va_RA s c ty := by
  obtain ⟨c, k, comp, h1, h2, h3⟩ := st_arr h
  exact ⟨c, st_of h2 h3, hra c h1⟩
theorem st_objs {s : State} {A : Array Value} {C : String} (h : (Cond.arrayOver (.object C)).before A s = true) : ∃ c, ArrOfT s c (.object C) ∧ va_RA s c (.object C) := by
  obtain ⟨comp, c, k, h1, _, h3, h4, h5⟩ := Cond.arrayOver_spec h
  exact ⟨c, st_of h3 h4, k, comp, h3, h4, h1, h5⟩
theorem st_known {s : State} {A : Array Value} {b : Nat} {scr : Cell} (hts : ∀ w ∈ lw_tbl, w.before A s = true) (hg : (Jvm.Cond.and given_1 narrow_1).before A s = true) (hscr : s.isArrayOf scr .int) : ∃ G : mm_G, mm_Kn G s ∧ G.2.2.2 = (b, scr) ∧ s.heap[G.2.2.1.1]? = some G.2.2.1.2 := by
  have hfl := flat_of_before _ hg
  have hT : ∀ w ∈ nn_TS, w.before A s = true := fun w hw => hts w (nn_sub hw)
  have h1 : ∀ ci, ∃ q : ClassId × (Nat → Nat), ci < 8 → u_Kn s (nn_C ci) (nn_T ci) (nn_N ci) q.1 q.2 := fun ci => by
    by_cases h8 : ci < 8
    · obtain ⟨cC, iS, h⟩ := u_known (T := nn_T ci) (N := nn_N ci) hT (nn_lay ci h8) (hT _ (cn_all ci h8))
      exact ⟨(cC, iS), fun _ => h⟩
    · exact ⟨(0, fun _ => 0), fun h => absurd h h8⟩
  obtain ⟨f1, hf1⟩ := Classical.axiomOfChoice h1
  have h2 : ∀ k, ∃ c : ClassId, k < 7 → ArrOfT s c (mm_ty k) ∧ va_RA s c (mm_ty k) := fun k => by
    match k with
    | 0 => obtain ⟨c, h⟩ := st_prim (ty := .int) rfl (hT _ ca_int) (fun c h => h); exact ⟨c, fun _ => h⟩
    | 1 => obtain ⟨c, h⟩ := st_prim (ty := .boolean) rfl (hT _ ca_boolean) (fun c h => h); exact ⟨c, fun _ => h⟩
    | 2 => obtain ⟨c, h⟩ := st_prim (ty := .long) rfl (hT _ ca_long) (fun c h => h); exact ⟨c, fun _ => h⟩
    | 3 => obtain ⟨c, h⟩ := st_objs (hts _ (tb_in (w := .arrayOver (.object "TabletCommits$Tablet")) 47 (by decide +kernel))); exact ⟨c, fun _ => h⟩
    | 4 => obtain ⟨c, h⟩ := st_objs (hts _ (tb_in (w := .arrayOver (.object "TabletCommits$Cell")) 76 (by decide +kernel))); exact ⟨c, fun _ => h⟩
    | 5 => obtain ⟨c, h⟩ := st_objs (hts _ (tb_in (w := .arrayOver (.object "TabletCommits$Transaction")) 98 (by decide +kernel))); exact ⟨c, fun _ => h⟩
    | 6 => obtain ⟨c, h⟩ := st_prim (ty := .int) rfl (hT _ ca_int) (fun c h => h); exact ⟨c, fun _ => h⟩
    | _ + 7 => exact ⟨0, fun h => by omega⟩
  obtain ⟨f2, hf2⟩ := Classical.axiomOfChoice h2
  have l1 : (Cond.laysStatic "java/lang/Throwable" "UNASSIGNED_STACK" "[Ljava/lang/StackTraceElement;").before A s = true := hts _ (tb_in 330 (by decide +kernel))
  have l2 : (Cond.laysStatic "java/lang/Throwable" "SUPPRESSED_SENTINEL" "Ljava/util/List;").before A s = true := hts _ (tb_in 332 (by decide +kernel))
  have l3 : (Cond.isRef (.static "java/lang/Throwable" "UNASSIGNED_STACK" "[Ljava/lang/StackTraceElement;")).before A s = true := hfl _ (by decide +kernel)
  have l4 : (Cond.isRef (.static "java/lang/Throwable" "SUPPRESSED_SENTINEL" "Ljava/util/List;")).before A s = true := hfl _ (by decide +kernel)
  obtain ⟨c, k, i, f, ad, cell, a1, a2, _, a4, a5, _⟩ := Cond.laysStatic_spec l1
  obtain ⟨c', k', i', f', ad', cell', b1, b2, _, b4, _⟩ := Cond.laysStatic_spec l2
  have hcc : c' = c := Option.some.inj (b1.symm.trans a1)
  subst hcc
  have hkk : k' = k := Option.some.inj ((st_cls b2).symm.trans (st_cls a2))
  have s1 : ∀ c k i f, s.fieldFound? "java/lang/Throwable" "UNASSIGNED_STACK" "[Ljava/lang/StackTraceElement;" = some (c, k, i, f) → k.statics = some ad := fun c2 k2 i2 f2 h => by
    rw [a2] at h
    cases h
    exact a4
  have s2 : ∀ c k i f, s.fieldFound? "java/lang/Throwable" "SUPPRESSED_SENTINEL" "Ljava/util/List;" = some (c, k, i, f) → k.statics = some ad := fun c2 k2 i2 f2 h => by
    rw [b2] at h
    cases h
    rw [hkk]
    exact a4
  have hcl : ∀ ci, ci < 8 → ∃ cur, s.vm.findClass (nn_C ci) = some cur := fun ci h8 => by
    obtain ⟨cC, kC, hfc, _⟩ := Cond.instantiable_spec (hT _ (cn_all ci h8))
    exact ⟨cC, hfc⟩
  have hstr : ∀ (own : String) (ki : Nat) (tx : String) (cur : Nat), s.vm.findClass own = some cur → (Cond.stringRef own ki tx).before A s = true → ∃ a, vk_R own ki tx a s := fun own ki tx cur hcur h => by
    obtain ⟨_, _, _, a, _, _, _, _, _, ha⟩ := Cond.stringRef_spec hcur h
    exact ⟨a, vk_R.of h ha⟩
  refine ⟨((fun ci => (f1 ci).1, fun ci => (f1 ci).2), f2, ((ad, cell), (b, scr))), ⟨⟨fun ci q hq => ?_, fun k q hq => ?_⟩, fun w hw => ?_, ⟨va_AO.of (hts _ (tb_in 47 (by decide +kernel))), va_AO.of (hts _ (tb_in 76 (by decide +kernel))), va_AO.of (hts _ (tb_in 98 (by decide +kernel)))⟩, ⟨fun U' hv hu w hw => ?_, hscr⟩, fun q hq => ?_, fun i j hi hj hij => ?_⟩, rfl, a5⟩
  · have h8 : ci < 8 := by
      rcases Nat.lt_or_ge ci 8 with h | h
      · exact h
      · rw [show mm_cl[ci]? = none from List.getElem?_eq_none (by show 8 ≤ ci; exact h)] at hq
        cases hq
    rw [mm_cl_at h8] at hq
    cases hq
    exact hf1 ci h8
  · have h7 : k < 7 := by
      rcases Nat.lt_or_ge k 7 with h | h
      · exact h
      · rw [show (mm_tys ((fun ci => (f1 ci).1, fun ci => (f1 ci).2), f2, ((ad, cell), (b, scr))))[k]? = none from List.getElem?_eq_none (by show 7 ≤ k; exact h)] at hq
        cases hq
    rw [mm_tys_at _ h7] at hq
    cases hq
    exact hf2 k h7
  · have hi := (List.mem_filter.mp hw).2
    refine va_Nw.of ?_ (hts w (List.mem_filter.mp hw).1)
    cases w <;> first | (simp [nn_isN] at hi; done) | rfl
  · simp only [nn_ZS, List.mem_cons, List.not_mem_nil, or_false] at hw
    rcases hw with rfl | rfl | rfl | rfl
    · exact st_lays hv s1 a5 hu l1
    · exact st_lays hv s2 a5 hu l2
    · exact st_ref hv s1 a5 hu l3
    · exact st_ref hv s2 a5 hu l4
  · obtain ⟨cu0, hcu0⟩ := hcl 0 (by decide)
    obtain ⟨cu6, hcu6⟩ := hcl 6 (by decide)
    simp only [nn_SS, List.mem_cons, List.not_mem_nil, or_false] at hq
    rcases hq with rfl | rfl | rfl | rfl | rfl | rfl | rfl | rfl | rfl | rfl | rfl
    · exact hstr _ _ _ cu0 hcu0 (hts _ (tb_in 345 (by decide +kernel)))
    · exact hstr _ _ _ cu0 hcu0 (hts _ (tb_in 381 (by decide +kernel)))
    · exact hstr _ _ _ cu0 hcu0 (hts _ (tb_in 409 (by decide +kernel)))
    · exact hstr _ _ _ cu0 hcu0 (hts _ (tb_in 410 (by decide +kernel)))
    · exact hstr _ _ _ cu6 hcu6 (hts _ (tb_in 432 (by decide +kernel)))
    · exact hstr _ _ _ cu0 hcu0 (hts _ (tb_in 439 (by decide +kernel)))
    · exact hstr _ _ _ cu0 hcu0 (hts _ (tb_in 449 (by decide +kernel)))
    · exact hstr _ _ _ cu0 hcu0 (hts _ (tb_in 511 (by decide +kernel)))
    · exact hstr _ _ _ cu0 hcu0 (hts _ (tb_in 517 (by decide +kernel)))
    · exact hstr _ _ _ cu0 hcu0 (hts _ (tb_in 548 (by decide +kernel)))
    · exact hstr _ _ _ cu0 hcu0 (hts _ (tb_in 637 (by decide +kernel)))
  · match i, j, hi, hj, hij with
    | 0, 0, _, _, h => exact absurd rfl h
    | 0, 1, _, _, _ => exact va_Nc.of (hfl _ (by decide +kernel))
    | 0, 2, _, _, _ => exact va_Nc.of (hfl _ (by decide +kernel))
    | 0, 3, _, _, _ => exact va_Nc.of (hfl _ (by decide +kernel))
    | 1, 0, _, _, _ => exact va_Nc.of (hfl _ (by decide +kernel))
    | 1, 1, _, _, h => exact absurd rfl h
    | 1, 2, _, _, _ => exact va_Nc.of (hfl _ (by decide +kernel))
    | 1, 3, _, _, _ => exact va_Nc.of (hfl _ (by decide +kernel))
    | 2, 0, _, _, _ => exact va_Nc.of (hfl _ (by decide +kernel))
    | 2, 1, _, _, _ => exact va_Nc.of (hfl _ (by decide +kernel))
    | 2, 2, _, _, h => exact absurd rfl h
    | 2, 3, _, _, _ => exact va_Nc.of (hfl _ (by decide +kernel))
    | 3, 0, _, _, _ => exact va_Nc.of (hfl _ (by decide +kernel))
    | 3, 1, _, _, _ => exact va_Nc.of (hfl _ (by decide +kernel))
    | 3, 2, _, _, _ => exact va_Nc.of (hfl _ (by decide +kernel))
    | 3, 3, _, _, h => exact absurd rfl h
    | _ + 4, _, h, _, _ => omega
    | 0, _ + 4, _, h, _ => omega
    | 1, _ + 4, _, h, _ => omega
    | 2, _ + 4, _, h, _ => omega
    | 3, _ + 4, _, h, _ => omega
