theorem mm_si_self (M : mm_M) (a k : Nat) : mm_si M a k (mm_i M a k) = M := by
  obtain ⟨f, g, h, q⟩ := M
  show (f, (fun b j => if b = a ∧ j = k then g a k else g b j), h, q) = (f, g, h, q)
  have : (fun b j => if b = a ∧ j = k then g a k else g b j) = g := by
    funext b j
    by_cases e : b = a ∧ j = k
    · rw [if_pos e, e.1, e.2]
    · rw [if_neg e]
  rw [this]
theorem mm_sr_self (M : mm_M) (a k : Nat) : mm_sr M a k (mm_r M a k) = M := by
  obtain ⟨f, g, h, q⟩ := M
  show (f, g, (fun b j => if b = a ∧ j = k then h a k else h b j), q) = (f, g, h, q)
  have : (fun b j => if b = a ∧ j = k then h a k else h b j) = h := by
    funext b j
    by_cases e : b = a ∧ j = k
    · rw [if_pos e, e.1, e.2]
    · rw [if_neg e]
  rw [this]
theorem mm_ext {M N : mm_M} (h1 : ∀ b, mm_k M b = mm_k N b) (h2 : ∀ b j, mm_i M b j = mm_i N b j) (h3 : ∀ b j, mm_r M b j = mm_r N b j) (h4 : ∀ b j, mm_l M b j = mm_l N b j) : M = N := by
  obtain ⟨f, g, h, q⟩ := M
  obtain ⟨f', g', h', q'⟩ := N
  have e1 : f = f' := funext h1
  have e2 : g = g' := funext fun b => funext fun j => h2 b j
  have e3 : h = h' := funext fun b => funext fun j => h3 b j
  have e4 : q = q' := funext fun b => funext fun j => h4 b j
  rw [e1, e2, e3, e4]
theorem mm_out {x c : Int32} {lo hi : Int} (h : x.toInt < lo ∨ hi < x.toInt) (h1 : lo ≤ c.toInt) (h2 : c.toInt ≤ hi) : ¬ x = c := by
  intro e
  subst e
  omega
theorem mm_nlt {x z : Int32} (h : x ≤ z) : ¬ z < x := by
  rw [Int32.le_iff_toInt_le] at h
  rw [Int32.lt_iff_toInt_lt]
  omega
theorem mm_lt {x z : Int32} (h : ¬ x ≤ z) : z < x := by
  rw [Int32.le_iff_toInt_le] at h
  rw [Int32.lt_iff_toInt_lt]
  omega
theorem mm_nle {x z : Int32} (h : x < z) : ¬ z ≤ x := by
  rw [Int32.lt_iff_toInt_lt] at h
  rw [Int32.le_iff_toInt_le]
  omega
theorem mm_le {x z : Int32} (h : ¬ x < z) : z ≤ x := by
  rw [Int32.lt_iff_toInt_lt] at h
  rw [Int32.le_iff_toInt_le]
  omega
theorem mm_bl {x : Int32} (h : x = 0 ∨ x = 1) : narrow .boolean (.int x) = .int x ∧ fits .boolean (.int x) = true := by
  rcases h with rfl | rfl
  · exact ⟨by decide, by decide⟩
  · exact ⟨by decide, by decide⟩
def nn_rf : FieldType → Bool
  | .object _ => true
  | .array _ => true
  | _ => false
theorem mm_nr {ty : FieldType} (h : nn_rf ty = true) : ∀ x, narrow ty (va_rf x) = va_rf x ∧ fits ty (va_rf x) = true := by
  intro x
  cases ty <;> first | (simp [nn_rf] at h; done) | (cases x <;> exact ⟨rfl, rfl⟩)
theorem mm_vlt {x : Int32} {n : Nat} (h : x < 0) : ¬ vp_in x n := fun q => q (Or.inl h)
theorem mm_vge {x c : Int32} {n : Nat} (h : c ≤ x) (hc : c.toInt = (n : Int)) : ¬ vp_in x n := by
  rw [vp_in_iff]
  rw [Int32.le_iff_toInt_le] at h
  omega
theorem mm_vin {x c : Int32} {n : Nat} (h1 : ¬ x < 0) (h2 : ¬ c ≤ x) (hc : c.toInt = (n : Int)) : vp_in x n := by
  rw [vp_in_iff]
  rw [Int32.lt_iff_toInt_lt, Int32.toInt_zero] at h1
  rw [Int32.le_iff_toInt_le] at h2
  omega
theorem mm_sw3 {x : Int32} {P : Prop} (ho : x.toInt < 0 ∨ 2 < x.toInt → P) (h0 : x = 0 → P) (h1 : x = 1 → P) (h2 : x = 2 → P) : P := by
  by_cases hh : x.toInt < 0 ∨ 2 < x.toInt
  · exact ho hh
  · by_cases e0 : x.toInt = 0
    · exact h0 (Int32.toInt_inj.mp (e0.trans (by decide)))
    by_cases e1 : x.toInt = 1
    · exact h1 (Int32.toInt_inj.mp (e1.trans (by decide)))
    by_cases e2 : x.toInt = 2
    · exact h2 (Int32.toInt_inj.mp (e2.trans (by decide)))
    exfalso
    omega
theorem mm_sw4 {x : Int32} {P : Prop} (ho : x.toInt < 0 ∨ 3 < x.toInt → P) (h0 : x = 0 → P) (h1 : x = 1 → P) (h2 : x = 2 → P) (h3 : x = 3 → P) : P := by
  by_cases hh : x.toInt < 0 ∨ 3 < x.toInt
  · exact ho hh
  · by_cases e0 : x.toInt = 0
    · exact h0 (Int32.toInt_inj.mp (e0.trans (by decide)))
    by_cases e1 : x.toInt = 1
    · exact h1 (Int32.toInt_inj.mp (e1.trans (by decide)))
    by_cases e2 : x.toInt = 2
    · exact h2 (Int32.toInt_inj.mp (e2.trans (by decide)))
    by_cases e3 : x.toInt = 3
    · exact h3 (Int32.toInt_inj.mp (e3.trans (by decide)))
    exfalso
    omega
theorem mm_sw6 {x : Int32} {P : Prop} (ho : x.toInt < 0 ∨ 5 < x.toInt → P) (h0 : x = 0 → P) (h1 : x = 1 → P) (h2 : x = 2 → P) (h3 : x = 3 → P) (h4 : x = 4 → P) (h5 : x = 5 → P) : P := by
  by_cases hh : x.toInt < 0 ∨ 5 < x.toInt
  · exact ho hh
  · by_cases e0 : x.toInt = 0
    · exact h0 (Int32.toInt_inj.mp (e0.trans (by decide)))
    by_cases e1 : x.toInt = 1
    · exact h1 (Int32.toInt_inj.mp (e1.trans (by decide)))
    by_cases e2 : x.toInt = 2
    · exact h2 (Int32.toInt_inj.mp (e2.trans (by decide)))
    by_cases e3 : x.toInt = 3
    · exact h3 (Int32.toInt_inj.mp (e3.trans (by decide)))
    by_cases e4 : x.toInt = 4
    · exact h4 (Int32.toInt_inj.mp (e4.trans (by decide)))
    by_cases e5 : x.toInt = 5
    · exact h5 (Int32.toInt_inj.mp (e5.trans (by decide)))
    exfalso
    omega
theorem mm_sw18 {x : Int32} {P : Prop} (ho : x.toInt < 0 ∨ 17 < x.toInt → P) (h0 : x = 0 → P) (h1 : x = 1 → P) (h2 : x = 2 → P) (h3 : x = 3 → P) (h4 : x = 4 → P) (h5 : x = 5 → P) (h6 : x = 6 → P) (h7 : x = 7 → P) (h8 : x = 8 → P) (h9 : x = 9 → P) (h10 : x = 10 → P) (h11 : x = 11 → P) (h12 : x = 12 → P) (h13 : x = 13 → P) (h14 : x = 14 → P) (h15 : x = 15 → P) (h16 : x = 16 → P) (h17 : x = 17 → P) : P := by
  by_cases hh : x.toInt < 0 ∨ 17 < x.toInt
  · exact ho hh
  · by_cases e0 : x.toInt = 0
    · exact h0 (Int32.toInt_inj.mp (e0.trans (by decide)))
    by_cases e1 : x.toInt = 1
    · exact h1 (Int32.toInt_inj.mp (e1.trans (by decide)))
    by_cases e2 : x.toInt = 2
    · exact h2 (Int32.toInt_inj.mp (e2.trans (by decide)))
    by_cases e3 : x.toInt = 3
    · exact h3 (Int32.toInt_inj.mp (e3.trans (by decide)))
    by_cases e4 : x.toInt = 4
    · exact h4 (Int32.toInt_inj.mp (e4.trans (by decide)))
    by_cases e5 : x.toInt = 5
    · exact h5 (Int32.toInt_inj.mp (e5.trans (by decide)))
    by_cases e6 : x.toInt = 6
    · exact h6 (Int32.toInt_inj.mp (e6.trans (by decide)))
    by_cases e7 : x.toInt = 7
    · exact h7 (Int32.toInt_inj.mp (e7.trans (by decide)))
    by_cases e8 : x.toInt = 8
    · exact h8 (Int32.toInt_inj.mp (e8.trans (by decide)))
    by_cases e9 : x.toInt = 9
    · exact h9 (Int32.toInt_inj.mp (e9.trans (by decide)))
    by_cases e10 : x.toInt = 10
    · exact h10 (Int32.toInt_inj.mp (e10.trans (by decide)))
    by_cases e11 : x.toInt = 11
    · exact h11 (Int32.toInt_inj.mp (e11.trans (by decide)))
    by_cases e12 : x.toInt = 12
    · exact h12 (Int32.toInt_inj.mp (e12.trans (by decide)))
    by_cases e13 : x.toInt = 13
    · exact h13 (Int32.toInt_inj.mp (e13.trans (by decide)))
    by_cases e14 : x.toInt = 14
    · exact h14 (Int32.toInt_inj.mp (e14.trans (by decide)))
    by_cases e15 : x.toInt = 15
    · exact h15 (Int32.toInt_inj.mp (e15.trans (by decide)))
    by_cases e16 : x.toInt = 16
    · exact h16 (Int32.toInt_inj.mp (e16.trans (by decide)))
    by_cases e17 : x.toInt = 17
    · exact h17 (Int32.toInt_inj.mp (e17.trans (by decide)))
    exfalso
    omega
section JN
variable {l : Launch} {y : MethodName} {cc : ByteArray} {nL : Nat} {ret : Option FieldType} {G : mm_G} {R : Room} {A : Nat → Prop} {Q : mm_O → mm_M → Prop} {mc ms pc : Nat} {lv : List (Nat × Value)} {st : List Value} {M : mm_M}
theorem jj_aload_nR {k4 : Fin 4} {r : Option Nat} (i : Nat) (hd : decode cc pc = .ok (.aload_n k4, 1)) (hi : lv[i]? = some (k4.val, va_rf r)) (k : jj_ l y cc nL ret G R A Q mc ms (pc + 1) lv (va_rf r :: st) M) : jj_ l y cc nL ret G R A Q mc ms pc lv st M := by
  cases r with
  | none => exact jj_aload_nN i hd hi k
  | some x => exact jj_aload_n i hd hi k
theorem jj_aloadR {n : Nat} {r : Option Nat} (i : Nat) (hd : decode cc pc = .ok (.aload n, 2)) (hi : lv[i]? = some (n, va_rf r)) (k : jj_ l y cc nL ret G R A Q mc ms (pc + 2) lv (va_rf r :: st) M) : jj_ l y cc nL ret G R A Q mc ms pc lv st M := by
  cases r with
  | none => exact jj_aloadN i hd hi k
  | some x => exact jj_aload i hd hi k
theorem jj_astore_nR {k4 : Fin 4} {r : Option Nat} {lv' : List (Nat × Value)} (hd : decode cc pc = .ok (.astore_n k4, 1)) (hn : k4.val < nL) (hl' : (k4.val, va_rf r) :: lv.filter (fun q => !(q.1 == k4.val) && !(q.1 + 1 == k4.val && q.2.category == 2)) = lv') (k : jj_ l y cc nL ret G R A Q mc ms (pc + 1) lv' st M) : jj_ l y cc nL ret G R A Q mc ms pc lv (va_rf r :: st) M := by
  cases r with
  | none => exact jj_astore_nN hd hn hl' k
  | some x => exact jj_astore_n hd hn hl' k
theorem jj_astoreR {n : Nat} {r : Option Nat} {lv' : List (Nat × Value)} (hd : decode cc pc = .ok (.astore n, 2)) (hn : n < nL) (hl' : (n, va_rf r) :: lv.filter (fun q => !(q.1 == n) && !(q.1 + 1 == n && q.2.category == 2)) = lv') (k : jj_ l y cc nL ret G R A Q mc ms (pc + 2) lv' st M) : jj_ l y cc nL ret G R A Q mc ms pc lv (va_rf r :: st) M := by
  cases r with
  | none => exact jj_astoreN hd hn hl' k
  | some x => exact jj_astore hd hn hl' k
end JN
