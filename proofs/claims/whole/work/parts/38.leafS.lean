def bt_ (x : Int32) (i : Nat) : Int32 := (x >>> (nI i &&& 31)) &&& 1
def le_go (x : Int32) : Nat → Nat → Nat
  | 0, k => k
  | n + 1, k => if bt_ x k = 0 then le_go x n (k + 1) else k
def le_ (x : Int32) : Nat := le_go x 11 0
theorem le_goU {x : Int32} {c : Nat} (h1 : c ≤ 11) (h2 : ∀ j, j < c → bt_ x j = 0) (h3 : c < 11 → ¬ bt_ x c = 0) : ∀ n k, k + n = 11 → k ≤ c → le_go x n k = c := by
  intro n
  induction n with
  | zero =>
    intro k hk hc
    show k = c
    omega
  | succ n ih =>
    intro k hk hc
    unfold le_go
    by_cases e : k = c
    · subst e
      rw [if_neg (h3 (by omega))]
    · rw [if_pos (h2 k (by omega))]
      exact ih (k + 1) (by omega) (by omega)
theorem le_U {x : Int32} {c : Nat} (h1 : c ≤ 11) (h2 : ∀ j, j < c → bt_ x j = 0) (h3 : c < 11 → ¬ bt_ x c = 0) : c = le_ x := (le_goU h1 h2 h3 11 0 (by omega) (by omega)).symm
theorem le_goL (x : Int32) : ∀ n k, k + n = 11 → le_go x n k ≤ 11 := by
  intro n
  induction n with
  | zero => intro k hk; show k ≤ 11; omega
  | succ n ih =>
    intro k hk
    unfold le_go
    split
    · exact ih _ (by omega)
    · omega
theorem le_L (x : Int32) : le_ x < 12 := by
  have := le_goL x 11 0 (by omega)
  unfold le_
  omega
def hoC_ (F : Nat → Nat → Int32) : Nat → Nat → Int32 := uf_ (uf_ F 1 1 (if F 1 1 < F 1 0 then F 1 0 + 7 else F 1 1)) 1 0 (F 1 0 + 1)
def trE_ (F : Nat → Nat → Int32) (c : Nat) : Nat → Nat → Int32 := uf_ (uf_ (uf_ (uf_ (uf_ (uf_ (uf_ (uf_ (uf_ F (40 + c) 2 0) (40 + c) 3 0) (40 + c) 4 0) (40 + c) 5 0) (40 + c) 6 0) (40 + c) 7 0) (40 + c) 8 0) (40 + c) 9 0) (40 + c) 10 0
section KS
variable {l : Launch} {g : Nat → Nat} {M : mm_M} {S : ss_} {Q : Option Value → mm_M → Prop}
theorem ks_TC_leastOf {x : Int32} (hQ : Q (some (.int (nI (le_ x)))) M) : ct_ l yy_TC_leastOf bb_TC_leastOf 2 (some .int) 0 0 0 [.int x] M Q :=
  ct_TC_leastOf (fun c h1 h2 h3 => by rw [le_U h1 h2 h3]; exact hQ)
theorem ks_Or_handOut (hS : rp_ g M S) (hQ : ∀ M', rp_ g M' (hoC_ S.1, S.2) → Q (some (.int (S.1 1 0))) M') : ct_ l yy_Or_handOut bb_Or_handOut 2 (some .int) 0 0 0 [.ref (g 1)] M Q := by
  have e := hS.2.1 1 _ rfl
  refine ct_Or_handOut (hS.1.1 1 _ rfl) ?_
  simp only [e]
  exact hQ _ (rp_si (rp_si hS rfl) rfl)
theorem ks_Or_restart (hS : rp_ g M S) (hQ : ∀ M', rp_ g M' (uf_ S.1 1 0 (S.1 1 1 + 1), S.2) → Q (some (.int (S.1 1 1 + 1))) M') : ct_ l yy_Or_restart bb_Or_restart 1 (some .int) 0 0 0 [.ref (g 1)] M Q := by
  have e := hS.2.1 1 _ rfl
  refine ct_Or_restart (hS.1.1 1 _ rfl) ?_
  simp only [e]
  exact hQ _ (rp_si hS rfl)
theorem ks_Ta_failAt {t : Nat} {x b : Int32} (hS : rp_ g M S) (ht : t < 3) (hb : b = 0 ∨ b = 1) (hQ : ∀ M', rp_ g M' (uf_ (uf_ S.1 (10 + t) 4 x) (10 + t) 5 b, S.2) → Q none M') : ct_ l yy_Ta_failAt bb_Ta_failAt 3 none 0 0 0 [.ref (g (10 + t)), .int x, .int b] M Q :=
  ct_Ta_failAt (hS.1.1 _ _ (ok_t ht)) hb (hQ _ (rp_si (rp_si hS (ok_t ht)) (ok_t ht)))
theorem ks_Ta_comeUp {t : Nat} (hS : rp_ g M S) (ht : t < 3) (hQ : ∀ M', rp_ g M' (uf_ (uf_ S.1 (10 + t) 0 1) (10 + t) 4 0, S.2) → Q none M') : ct_ l yy_Ta_comeUp bb_Ta_comeUp 1 none 0 0 0 [.ref (g (10 + t))] M Q :=
  ct_Ta_comeUp (hS.1.1 _ _ (ok_t ht)) (hQ _ (rp_si (rp_si hS (ok_t ht)) (ok_t ht)))
theorem ks_Ta_answer {t : Nat} {x : Int32} (hS : rp_ g M S) (ht : t < 3) (hQ : Q (some (.int (if x = 0 then S.1 (10 + t) 2 else if x = 1 then (if S.1 (10 + t) 0 = 0 then -1 else S.1 (10 + t) 1) else if x = 2 then S.1 (10 + t) 3 else -1))) M) : ct_ l yy_Ta_answer bb_Ta_answer 2 (some .int) 0 0 0 [.ref (g (10 + t)), .int x] M Q := by
  have e := hS.2.1 _ _ (ok_t ht)
  refine ct_Ta_answer (hS.1.1 _ _ (ok_t ht)) ?_
  simp only [e]
  exact hQ
theorem ks_Tr_startAt {c : Nat} {x : Int32} (hS : rp_ g M S) (hc : c < 4) (hQ : ∀ M', rp_ g M' (uf_ (uf_ S.1 (40 + c) 2 1) (40 + c) 4 x, S.2) → Q none M') : ct_ l yy_Tr_startAt bb_Tr_startAt 2 none 0 0 0 [.ref (g (40 + c)), .int x] M Q :=
  ct_Tr_startAt (hS.1.1 _ _ (ok_x hc)) (hQ _ (rp_si (rp_si hS (ok_x hc)) (ok_x hc)))
theorem rp_end {c : Nat} (hS : rp_ g M S) (hc : c < 4) : rp_ g (tr_end M (g (40 + c))) (trE_ S.1 c, S.2) :=
  rp_si (rp_si (rp_si (rp_si (rp_si (rp_si (rp_si (rp_si (rp_si hS (ok_x hc)) (ok_x hc)) (ok_x hc)) (ok_x hc)) (ok_x hc)) (ok_x hc)) (ok_x hc)) (ok_x hc)) (ok_x hc)
theorem ks_Tr_end {c : Nat} (hS : rp_ g M S) (hc : c < 4) (hQ : ∀ M', rp_ g M' (trE_ S.1 c, S.2) → Q none M') : ct_ l yy_Tr_end bb_Tr_end 1 none 0 0 0 [.ref (g (40 + c))] M Q :=
  ct_Tr_end (hS.1.1 _ _ (ok_x hc)) (hQ _ (rp_end hS hc))
theorem ks_Tr_writes {c i : Nat} (hS : rp_ g M S) (hc : c < 4) (hQ : Q (some (.int (if bt_ (S.1 (40 + c) 6) i = 1 then 1 else 0))) M) : ct_ l yy_Tr_writes bb_Tr_writes 2 (some .boolean) 0 0 0 [.ref (g (40 + c)), .int (nI i)] M Q := by
  have e := hS.2.1 _ _ (ok_x hc)
  refine ct_Tr_writes (hS.1.1 _ _ (ok_x hc)) ?_
  simp only [e]
  exact hQ
theorem ks_Tr_erases {c i : Nat} (hS : rp_ g M S) (hc : c < 4) (hQ : Q (some (.int (if bt_ (S.1 (40 + c) 7) i = 1 then 1 else 0))) M) : ct_ l yy_Tr_erases bb_Tr_erases 2 (some .boolean) 0 0 0 [.ref (g (40 + c)), .int (nI i)] M Q := by
  have e := hS.2.1 _ _ (ok_x hc)
  refine ct_Tr_erases (hS.1.1 _ _ (ok_x hc)) ?_
  simp only [e]
  exact hQ
def b1_ (i : Nat) : Int32 := (1 : Int32) <<< (nI i &&& 31)
theorem ks_Tr_willPut {c i : Nat} {y : Int32} (hS : rp_ g M S) (hc : c < 4) (hi : i < 12) (hQ : ∀ M', rp_ g M' (uf_ (uf_ (uf_ S.1 (40 + c) 6 (S.1 (40 + c) 6 ||| b1_ i)) (40 + c) 7 (S.1 (40 + c) 7 &&& (b1_ i ^^^ (-1)))) (50 + c) i y, S.2) → Q none M') : ct_ l yy_Tr_willPut bb_Tr_willPut 3 none 0 0 0 [.ref (g (40 + c)), .int (nI i), .int y] M Q := by
  have e := hS.2.1 _ _ (ok_x hc)
  refine ct_Tr_willPut (hS.1.1 _ _ (ok_x hc)) (hS.1.2.2.2.2.2.1 c hc).2 (hS.1.1 _ _ (ok_v hc)) (vp_in_nI (by omega) (by decide)) ?_
  simp only [e, nI_clamp (show i < 2 ^ 31 by omega)]
  exact hQ _ (rp_si (rp_si (rp_si hS (ok_x hc)) (ok_x hc)) (ok_v hc))
theorem ks_Tr_willErase {c i : Nat} (hS : rp_ g M S) (hc : c < 4) (hi : i < 12) (hQ : ∀ M', rp_ g M' (uf_ (uf_ (uf_ S.1 (40 + c) 6 (S.1 (40 + c) 6 ||| b1_ i)) (40 + c) 7 (S.1 (40 + c) 7 ||| b1_ i)) (50 + c) i 0, S.2) → Q none M') : ct_ l yy_Tr_willErase bb_Tr_willErase 2 none 0 0 0 [.ref (g (40 + c)), .int (nI i)] M Q := by
  have e := hS.2.1 _ _ (ok_x hc)
  refine ct_Tr_willErase (hS.1.1 _ _ (ok_x hc)) (hS.1.2.2.2.2.2.1 c hc).2 (hS.1.1 _ _ (ok_v hc)) (vp_in_nI (by omega) (by decide)) ?_
  simp only [e, nI_clamp (show i < 2 ^ 31 by omega)]
  exact hQ _ (rp_si (rp_si (rp_si hS (ok_x hc)) (ok_x hc)) (ok_v hc))
theorem ks_Tr_primary {c : Nat} (hS : rp_ g M S) (hc : c < 4) (hQ : Q (some (.int (nI (le_ (S.1 (40 + c) 6))))) M) : ct_ l yy_Tr_primary bb_Tr_primary 1 (some .int) 1 0 0 [.ref (g (40 + c))] M Q := by
  have e := hS.2.1 _ _ (ok_x hc)
  refine ct_Tr_primary (hS.1.1 _ _ (ok_x hc)) (fun c h1 h2 h3 => ?_)
  simp only [e] at h2 h3
  rw [le_U h1 h2 h3]
  exact hQ
theorem ks_Tr_endIfAllFollowed {c : Nat} (hS : rp_ g M S) (hc : c < 4) (hQ0 : ¬ S.1 (40 + c) 9 = S.1 (40 + c) 6 → Q (some (.int 0)) M) (hQ : S.1 (40 + c) 9 = S.1 (40 + c) 6 → ∀ M', rp_ g M' (trE_ S.1 c, S.2) → Q (some (.int 1)) M') : ct_ l yy_Tr_endIfAllFollowed bb_Tr_endIfAllFollowed 1 (some .boolean) 1 0 0 [.ref (g (40 + c))] M Q := by
  have e := hS.2.1 _ _ (ok_x hc)
  refine ct_Tr_endIfAllFollowed (hS.1.1 _ _ (ok_x hc)) (fun h => ?_) (fun h => ?_)
  · simp only [e] at h
    exact hQ0 h
  · simp only [e] at h
    exact hQ h _ (rp_end hS hc)
def txa_ (F : Nat → Nat → Int32) (c : Nat) (x : Int32) : Int32 := if x = 0 then (if F (40 + c) 2 = 0 then (0 : Int32) else 1) + (if F (40 + c) 3 = 0 then (0 : Int32) else 1) else if x = 1 then F (40 + c) 4 else if x = 2 then F (40 + c) 5 else if x = 3 then F (40 + c) 6 else if x = 4 then F (40 + c) 8 else if x = 5 then (if F (40 + c) 10 = 0 then (0 : Int32) else 1) else -1
theorem ks_Tr_answer {c : Nat} {x : Int32} (hS : rp_ g M S) (hc : c < 4) (hQ : Q (some (.int (txa_ S.1 c x))) M) : ct_ l yy_Tr_answer bb_Tr_answer 2 (some .int) 1 0 0 [.ref (g (40 + c)), .int x] M Q := by
  have e := hS.2.1 _ _ (ok_x hc)
  refine ct_Tr_answer (hS.1.1 _ _ (ok_x hc)) ?_
  simp only [e]
  exact hQ
end KS
def xo_ (Q : mm_O → mm_M → Prop) : Nat → Int32 → mm_M → Prop
  | 0, r, M => Q (.inl (some (.int r))) M
  | e + 1, _, M => ∀ a, mm_k M a = none → Q (.inr (a, e)) M
