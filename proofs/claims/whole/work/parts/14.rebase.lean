def rb_s (s T : State) : State := { s with heap := T.heap, slotsUsed := T.slotsUsed }
def rb_R (R : Room) (k n : Nat) : Room := { R with cells := R.cells - k, slots := R.slots - n }
section RB
variable {p : Program} {l : Launch} {e : Env} {R : Room} {s : State} {m : MethodId} {args : Array Value} {below : List Frame} {meth : Method} {c : Code} {T : State} {locs : List Loc} {cells slots : Nat}
theorem rb_stand (X : Stand p l e R s m args below meth c T locs cells slots) (hc : cells ≤ R.cells) (hs : slots ≤ R.slots) : Stand p l e (rb_R R cells slots) (rb_s s T) m args below meth c T [] 0 0 := by
  refine ⟨X.admits, X.cas, X.clock, X.frames, ?_, X.hears, X.method, X.code, X.here, X.tail, X.warmed, X.limits, X.bytes, ?_⟩
  · have h := X.room
    have h1 := X.heapSize
    have h2 := X.used
    have h3 := X.book
    simp only [State.hasRoom, Bool.and_eq_true, decide_eq_true_eq] at h ⊢
    obtain ⟨⟨⟨⟨a1, a2⟩, a3⟩, a4⟩, a5⟩ := h
    refine ⟨⟨⟨⟨a1, a2⟩, ?_⟩, ?_⟩, h3⟩
    · show T.heap.size + (R.cells - cells) ≤ _
      omega
    · show T.slotsUsed + (R.slots - slots) ≤ _
      omega
  · have hd : (T.heap.toList.drop T.heap.size) = [] := List.drop_eq_nil_of_le (by simp)
    refine ⟨X.same.1, Nat.le_refl _, Nat.le_refl _, ?_, ?_, fun a c h => ⟨c, h, rfl, rfl, fun _ _ => rfl⟩⟩
    · show T.slotsUsed = T.slotsUsed + ((T.heap.toList.drop T.heap.size).map (·.slots.size)).sum
      rw [hd]
      rfl
    · show ((T.heap.toList.drop T.heap.size).map (·.slots.size)).sum ≤ 0
      rw [hd]
      exact Nat.le_refl _
theorem rb_back (X : Stand p l e R s m args below meth c T locs cells slots) {U : State} {k n : Nat} (h : (rb_s s T).sameButNew ({ U with vm := s.vm } : State) [] k n) : s.sameButNew ({ U with vm := s.vm } : State) locs (cells + k) (slots + n) := by
  have h2 : (T.setVm s.vm).sameButNew ({ U with vm := s.vm } : State) [] k n := by
    refine ⟨?_, h.2⟩
    have e1 := X.same.1
    have e2 := h.1
    rw [e1]
    refine e2.trans ?_
    have e3 : (s.setFrames (T.setVm s.vm).frames).setFrames ({ U with vm := s.vm } : State).frames = s.setFrames ({ U with vm := s.vm } : State).frames := State.setFrames_setFrames _ _ _
    have e4 := congrArg (fun z : State => ({ z with heap := U.heap, slotsUsed := U.slotsUsed } : State)) e3
    exact e4.symm
  have h3 := X.same.trans h2
  rw [List.append_nil] at h3
  exact h3
theorem rb_keep {U : State} {k n : Nat} (h : (rb_s s T).sameButNew ({ U with vm := s.vm } : State) [] k n) {q : Nat} (hq : q < T.heap.size) : U.heap[q]? = T.heap[q]? := by
  cases hc : T.heap[q]? with
  | none => exact absurd hq (by simpa using hc)
  | some cell =>
    obtain ⟨c', h1, h2, h3, h4⟩ := h.2.2.2.2.2 q cell hc
    have e1 : c'.slots = cell.slots := by
      apply Array.ext_getElem?
      intro i
      exact h4 i (fun z => by cases z)
    have h1 : U.heap[q]? = some c' := h1
    rw [h1, h2, e1]
end RB
