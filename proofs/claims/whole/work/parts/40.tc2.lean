def lkF_ (F : Nat → Nat → Int32) (c i : Nat) (x : Int32) : Nat → Int32 := fun j => match j with
  | 0 => F (40 + c) 4
  | 1 => nI (le_ (F (40 + c) 6))
  | 2 => F (40 + c) 0
  | 3 => x
  | 4 => if bt_ (F (40 + c) 7) i = 1 then 1 else 0
  | _ => F (50 + c) i
def b0_ (S : ss_) : Prop := ∀ t, t < 3 → (S.1 (10 + t) 0 = 0 ∨ S.1 (10 + t) 0 = 1)
theorem cuf_mono {S : ss_} {i : Nat} {f : Nat → Int32} {K K' : Int32 → ss_ → Prop} (hi : i < 12) (hb : b0_ S) (hK : ∀ r S1, b0_ S1 → K r S1 → K' r S1) (h : cuf_ S i f K) : cuf_ S i f K' := by
  unfold cuf_ at h ⊢
  by_cases e : plF_ S.1 (i / 4) (10 + i / 4) 0 = 0
  · rw [if_pos e] at h ⊢
    exact hK _ _ (fun t ht => wr_b hi ht hb) h
  · rw [if_neg e] at h ⊢
    exact hK _ _ (fun t ht => wr_b hi ht hb) h
theorem cu_mono {S : ss_} {i : Nat} {K K' : Int32 → ss_ → Prop} (hi : i < 12) (hci : ci_ S) (hK : ∀ r S1, b0_ S1 → K r S1 → K' r S1) (h : cu_ S i K) : cu_ S i K' := by
  unfold cu_ at h ⊢
  cases hL : S.2.1 i with
  | none =>
    rw [hL] at h
    exact hK _ _ hci.1 h
  | some f =>
    rw [hL] at h
    obtain ⟨_, hp, _, _⟩ := hci.2.2 i f hi hL
    simp only [cu1_] at h ⊢
    by_cases e : S.1 (10 + pN_ f / 4) 0 = 0
    · rw [if_pos e] at h ⊢
      exact hK _ _ hci.1 h
    · rw [if_neg e] at h ⊢
      cases hv : vwb_ (f 0) (S.2.2 (pN_ f)) with
      | some v =>
        rw [hv] at h
        simp only [cu2_] at h ⊢
        by_cases e2 : plF_ S.1 (i / 4) (10 + i / 4) 0 = 0
        · rw [if_pos e2] at h ⊢
          exact hK _ _ (fun t ht => wr_b hi ht hci.1) h
        · rw [if_neg e2] at h ⊢
          exact hK _ _ (fun t ht => wr_b hi ht hci.1) h
      | none =>
        rw [hv] at h
        simp only [cu2_] at h ⊢
        by_cases e2 : lb_ (S.2.1 (pN_ f)) (f 0) = 0
        · rw [if_pos e2] at h ⊢
          exact cuf_mono hi hci.1 hK h
        · rw [if_neg e2] at h ⊢
          cases hL2 : S.2.1 (pN_ f) with
          | none => trivial
          | some f2 =>
            rw [hL2] at h
            simp only [cu3_] at h ⊢
            by_cases e3 : lsC_ S.1 f2 (cN_ f2) = 0
            · rw [if_pos e3] at h ⊢
              exact hK _ _ hci.1 h
            · rw [if_neg e3] at h ⊢
              by_cases e4 : plF_ S.1 (pN_ f / 4) (10 + pN_ f / 4) 0 = 0
              · rw [if_pos e4] at h ⊢
                exact hK _ _ (fun t ht => wr_b hp ht hci.1) h
              · rw [if_neg e4] at h ⊢
                by_cases e5 : pN_ f = i
                · rw [if_pos e5] at h ⊢
                  exact hK _ _ (fun t ht => wr_b hp ht hci.1) h
                · rw [if_neg e5] at h ⊢
                  exact cuf_mono hi (fun t ht => wr_b hp ht hci.1) hK h
def tll_ (S : ss_) (c i : Nat) (K : Int32 → ss_ → Prop) : Prop := if plF_ S.1 (i / 4) (10 + i / 4) 0 = 0 then K (-2) (wl_ S i (lkF_ S.1 c i (S.1 0 5))) else K 1 (wl_ S i (lkF_ S.1 c i (S.1 0 5)))
def tl_ (S : ss_) (c i : Nat) (K : Int32 → ss_ → Prop) : Prop :=
  if S.1 (40 + c) 4 < S.1 (10 + i / 4) 1 then K 0 (trE_ S.1 c, S.2)
  else if ovc_ (S.1 (40 + c) 4) (S.2.2 i) = 0 then cu_ S i (fun r S1 => if r = -2 then K (-2) S1 else if ovc_ (S1.1 (40 + c) 4) (S1.2.2 i) = 0 then tll_ S1 c i K else K 0 (trE_ S1.1 c, S1.2))
  else K 0 (trE_ S.1 c, S.2)
def pwf_ (S : ss_) (c i : Nat) (K : Int32 → ss_ → Prop) : Prop := K 1 (uf_ S.1 (40 + c) 8 (S.1 (40 + c) 8 ||| b1_ i), S.2)
def pw1_ (S : ss_) (c i : Nat) (K : Int32 → ss_ → Prop) : Prop := if S.1 (10 + i / 4) 0 = 0 then K (-2) S else if lb_ (S.2.1 i) (S.1 (40 + c) 4) = 0 then tl_ S c i (fun r S1 => if r = 1 then pwf_ S1 c i K else K r S1) else pwf_ S c i K
def pwC_ (S : ss_) (c : Nat) (K : Int32 → ss_ → Prop) : Prop := pw1_ S c (le_ (S.1 (40 + c) 6 &&& (S.1 (40 + c) 8 ^^^ (-1)))) K
def dcf_ (S : ss_) (c : Nat) (K : Int32 → ss_ → Prop) : Prop :=
  if (uf_ (uf_ S.1 (40 + c) 10 1) (40 + c) 9 (b1_ (le_ ((uf_ S.1 (40 + c) 10 1) (40 + c) 6)))) (40 + c) 9 = (uf_ (uf_ S.1 (40 + c) 10 1) (40 + c) 9 (b1_ (le_ ((uf_ S.1 (40 + c) 10 1) (40 + c) 6)))) (40 + c) 6
  then K 4 (trE_ (uf_ (uf_ S.1 (40 + c) 10 1) (40 + c) 9 (b1_ (le_ ((uf_ S.1 (40 + c) 10 1) (40 + c) 6)))) c, S.2)
  else K 3 (uf_ (uf_ S.1 (40 + c) 10 1) (40 + c) 9 (b1_ (le_ ((uf_ S.1 (40 + c) 10 1) (40 + c) 6))), S.2)
def dc2_ (S : ss_) (c p : Nat) (K : Int32 → ss_ → Prop) : Option (Nat → Int32) → Prop
  | none => True
  | some f => if plF_ S.1 (p / 4) (10 + p / 4) 0 = 0 then K (-2) (wr_ S p (dv_ f (S.1 (40 + c) 5))) else dcf_ (wr_ S p (dv_ f (S.1 (40 + c) 5))) c K
def dc1_ (S : ss_) (c p : Nat) (K : Int32 → ss_ → Prop) : Option vv_ → Prop
  | some _ => dcf_ S c K
  | none => if lb_ (S.2.1 p) (S.1 (40 + c) 4) = 0 then K 0 (trE_ S.1 c, S.2) else dc2_ S c p K (S.2.1 p)
def dc0_ (S : ss_) (c p : Nat) (K : Int32 → ss_ → Prop) : Prop := if S.1 (10 + p / 4) 0 = 0 then K (-2) S else dc1_ S c p K (vwb_ (S.1 (40 + c) 4) (S.2.2 p))
def dcC_ (S : ss_) (c : Nat) (K : Int32 → ss_ → Prop) : Prop := dc0_ S c (le_ (S.1 (40 + c) 6)) K
def fof_ (S : ss_) (c i : Nat) (K : Int32 → ss_ → Prop) : Prop :=
  if (uf_ S.1 (40 + c) 9 (S.1 (40 + c) 9 ||| b1_ i)) (40 + c) 9 = (uf_ S.1 (40 + c) 9 (S.1 (40 + c) 9 ||| b1_ i)) (40 + c) 6 then K 6 (trE_ (uf_ S.1 (40 + c) 9 (S.1 (40 + c) 9 ||| b1_ i)) c, S.2) else K 5 (uf_ S.1 (40 + c) 9 (S.1 (40 + c) 9 ||| b1_ i), S.2)
def fo2_ (S : ss_) (c i : Nat) (K : Int32 → ss_ → Prop) : Option (Nat → Int32) → Prop
  | none => True
  | some f => if plF_ S.1 (i / 4) (10 + i / 4) 0 = 0 then K (-2) (wr_ S i (dv_ f (S.1 (40 + c) 5))) else fof_ (wr_ S i (dv_ f (S.1 (40 + c) 5))) c i K
def fo1_ (S : ss_) (c i : Nat) (K : Int32 → ss_ → Prop) : Prop := if S.1 (10 + i / 4) 0 = 0 then K (-2) S else if lb_ (S.2.1 i) (S.1 (40 + c) 4) = 0 then fof_ S c i K else fo2_ S c i K (S.2.1 i)
def foC_ (S : ss_) (c : Nat) (K : Int32 → ss_ → Prop) : Prop := fo1_ S c (le_ (S.1 (40 + c) 6 &&& (S.1 (40 + c) 9 ^^^ (-1)))) K
def avC_ (S : ss_) (c : Nat) (K : Int32 → ss_ → Prop) : Prop :=
  if S.1 (40 + c) 6 = 0 then K 7 (trE_ S.1 c, S.2)
  else if S.1 (40 + c) 8 = S.1 (40 + c) 6 then (if S.1 (40 + c) 5 = 0 then K 2 (uf_ (hoC_ S.1) (40 + c) 5 (S.1 1 0), S.2) else if S.1 (40 + c) 10 = 0 then dcC_ S c K else foC_ S c K)
  else pwC_ S c K
theorem ite_p {p : Prop} [Decidable p] {A B : Prop} (h : p) (x : if p then A else B) : A := by
  rw [if_pos h] at x; exact x
theorem ite_n {p : Prop} [Decidable p] {A B : Prop} (h : ¬ p) (x : if p then A else B) : B := by
  rw [if_neg h] at x; exact x
theorem ite_mono {p : Prop} [Decidable p] {A B A' B' : Prop} (h1 : p → A → A') (h2 : ¬ p → B → B') (h : if p then A else B) : if p then A' else B' := by
  by_cases e : p
  · rw [if_pos e] at h ⊢; exact h1 e h
  · rw [if_neg e] at h ⊢; exact h2 e h
theorem tl_mono {S : ss_} {c i : Nat} {K K' : Int32 → ss_ → Prop} (hi : i < 12) (hci : ci_ S) (hK : ∀ r S1, K r S1 → K' r S1) (h : tl_ S c i K) : tl_ S c i K' :=
  ite_mono (fun _ => hK _ _) (fun _ => ite_mono (fun _ => cu_mono hi hci (fun r S1 _ => ite_mono (fun _ => hK _ _) (fun _ => ite_mono (fun _ => ite_mono (fun _ => hK _ _) (fun _ => hK _ _)) (fun _ => hK _ _)))) (fun _ => hK _ _)) h
theorem pw1_mono {S : ss_} {c i : Nat} {K K' : Int32 → ss_ → Prop} (hi : i < 12) (hci : ci_ S) (hK : ∀ r S1, K r S1 → K' r S1) (h : pw1_ S c i K) : pw1_ S c i K' :=
  ite_mono (fun _ => hK _ _) (fun _ => ite_mono (fun _ => tl_mono hi hci (fun r S1 => ite_mono (fun _ => hK _ _) (fun _ => hK _ _))) (fun _ => hK _ _)) h
theorem dcf_mono {S : ss_} {c : Nat} {K K' : Int32 → ss_ → Prop} (hK : ∀ r S1, K r S1 → K' r S1) (h : dcf_ S c K) : dcf_ S c K' :=
  ite_mono (fun _ => hK _ _) (fun _ => hK _ _) h
theorem dc0_mono {S : ss_} {c p : Nat} {K K' : Int32 → ss_ → Prop} (hK : ∀ r S1, K r S1 → K' r S1) (h : dc0_ S c p K) : dc0_ S c p K' := by
  refine ite_mono (fun _ => hK _ _) (fun _ h => ?_) h
  cases hv : vwb_ (S.1 (40 + c) 4) (S.2.2 p) with
  | some v => rw [hv] at h; exact dcf_mono hK h
  | none =>
    rw [hv] at h
    refine ite_mono (fun _ => hK _ _) (fun _ h => ?_) h
    cases hL : S.2.1 p with
    | none => trivial
    | some f => rw [hL] at h; exact ite_mono (fun _ => hK _ _) (fun _ => dcf_mono hK) h
theorem fof_mono {S : ss_} {c i : Nat} {K K' : Int32 → ss_ → Prop} (hK : ∀ r S1, K r S1 → K' r S1) (h : fof_ S c i K) : fof_ S c i K' :=
  ite_mono (fun _ => hK _ _) (fun _ => hK _ _) h
theorem fo1_mono {S : ss_} {c i : Nat} {K K' : Int32 → ss_ → Prop} (hK : ∀ r S1, K r S1 → K' r S1) (h : fo1_ S c i K) : fo1_ S c i K' := by
  refine ite_mono (fun _ => hK _ _) (fun _ => ite_mono (fun _ => fof_mono hK) (fun _ h => ?_)) h
  cases hL : S.2.1 i with
  | none => trivial
  | some f => rw [hL] at h; exact ite_mono (fun _ => hK _ _) (fun _ => fof_mono hK) h
theorem avC_mono {S : ss_} {c : Nat} {K K' : Int32 → ss_ → Prop} (hci : ci_ S) (hK : ∀ r S1, K r S1 → K' r S1) (h : avC_ S c K) : avC_ S c K' :=
  ite_mono (fun _ => hK _ _) (fun _ => ite_mono (fun _ => ite_mono (fun _ => hK _ _) (fun _ => ite_mono (fun _ => dc0_mono hK) (fun _ => fo1_mono hK))) (fun _ => pw1_mono (le_L _) hci hK)) h
theorem ci_uf {S : ss_} {n j : Nat} {x : Int32} (h : ci_ S) (hn : 32 ≤ n) : ci_ (uf_ S.1 n j x, S.2) := by
  refine ⟨fun t ht => ?_, fun i hi => ?_, h.2.2⟩
  · show uf_ S.1 n j x (10 + t) 0 = 0 ∨ uf_ S.1 n j x (10 + t) 0 = 1
    have e : uf_ S.1 n j x (10 + t) 0 = S.1 (10 + t) 0 := by rw [uf_at, if_neg (fun e => by omega)]
    rw [e]
    exact h.1 t ht
  · show uf_ S.1 n j x (20 + i) 3 < 512
    rw [uf_at, if_neg (fun e => by omega)]
    exact h.2.1 i hi
set_option maxRecDepth 20000 in
theorem ks_Tr_lockFor {l : Launch} {M : mm_M} {Q : Option Value → mm_M → Prop} {g : Nat → Nat} {S : ss_} (hS : rp_ g M S) {c i : Nat} {x : Int32} (hc : c < 4) (hi : i < 12) (hQ : ∀ M' a, rp_ g M' S → mm_k M' a = some (.inl 4) → (∀ j, j < 6 → mm_i M' a j = lkF_ S.1 c i x j) → Q (some (.ref a)) M') : ct_ l yy_Tr_lockFor bb_Tr_lockFor 3 (some (.object "TabletCommits$Lock")) 2 1 6 [.ref (g (40 + c)), .int (nI i), .int x] M Q := by
  refine ct_of (by decide) (Nat.le_of_ble_eq_true rfl) (fun G A => ?_)
  refine jj_new (ci := 4) 0 0 dd_Tr_lockFor_0 (by decide) cl_Tr_62 cn_4 ck_4 (Nat.le_of_ble_eq_true rfl) (Nat.le_of_ble_eq_true rfl) (fun q nq => ?_)
  refine jj_nwS hS nq (fun M gq hS lq fq kq _ => ?_)
  refine jj_dup dd_Tr_lockFor_3 rfl ?_
  refine jj_aload_n 0 dd_Tr_lockFor_4 rfl ?_
  refine jj_gS hS dd_Tr_lockFor_5 ff_Tr_18 (ok_x hc) (fun _ => rfl) ?_
  refine jj_aload_n 0 dd_Tr_lockFor_8 rfl ?_
  refine jj_callV (ci := 6) [] [_, .ref q, .ref q] 0 0 dd_Tr_lockFor_9 cs_Tr_64 ci_Tr_64 (hS.1.1 _ _ (ok_x hc)) ⟨by decide, rfl⟩ rfl (Nat.le_of_ble_eq_true rfl) ⟨(Nat.le_of_ble_eq_true rfl), (Nat.le_of_ble_eq_true rfl)⟩ ⟨(Nat.le_of_ble_eq_true rfl), (Nat.le_of_ble_eq_true rfl)⟩ rfl (ks_Tr_primary hS hc ?_)
  refine jj_aload_n 0 dd_Tr_lockFor_12 rfl ?_
  refine jj_gS hS dd_Tr_lockFor_13 ff_Tr_40 (ok_x hc) (fun _ => rfl) ?_
  refine jj_iload_n 2 dd_Tr_lockFor_16 rfl ?_
  refine jj_aload_n 0 dd_Tr_lockFor_17 rfl ?_
  refine jj_iload_n 1 dd_Tr_lockFor_18 rfl ?_
  refine jj_callV (ci := 6) [_] [_, _, _, _, .ref q, .ref q] 0 0 dd_Tr_lockFor_19 cs_Tr_47 ci_Tr_47 (hS.1.1 _ _ (ok_x hc)) ⟨by decide, rfl⟩ rfl (Nat.le_of_ble_eq_true rfl) ⟨(Nat.le_of_ble_eq_true rfl), (Nat.le_of_ble_eq_true rfl)⟩ ⟨(Nat.le_of_ble_eq_true rfl), (Nat.le_of_ble_eq_true rfl)⟩ rfl (ks_Tr_erases hS hc ?_)
  refine jj_aload_n 0 dd_Tr_lockFor_22 rfl ?_
  refine jj_vals hS dd_Tr_lockFor_23 ff_Tr_43 hc ?_
  refine jj_iload_n 1 dd_Tr_lockFor_26 rfl ?_
  refine jj_aS hS dd_Tr_lockFor_27 (ok_v hc) (vp_in_nI (n := i) (by omega) (by decide)) (i) (nI_clamp (n := i) (by omega)) ?_
  refine jj_callI [_, _, _, _, _, _] [.ref q] 0 0 dd_Tr_lockFor_28 cs_Tr_68 ci_Tr_68 rfl (Nat.le_of_ble_eq_true rfl) ⟨(Nat.le_of_ble_eq_true rfl), (Nat.le_of_ble_eq_true rfl)⟩ ⟨(Nat.le_of_ble_eq_true rfl), (Nat.le_of_ble_eq_true rfl)⟩ rfl (ct_Lo_init kq (by split; exact Or.inr rfl; exact Or.inl rfl) ?_)
  refine jj_li hS gq lq fq kq (fun M hS kq e => ?_)
  refine jj_aret dd_Tr_lockFor_31 rfl (Or.inl ⟨_, rfl⟩) (Or.inr ⟨_, rfl⟩) ?_
  refine hQ _ q hS kq (fun j hj => ?_)
  match j, hj with
  | 0, _ => exact e.1
  | 1, _ => exact e.2.1
  | 2, _ => exact e.2.2.1
  | 3, _ => exact e.2.2.2.1
  | 4, _ => exact e.2.2.2.2.1
  | 5, _ => exact e.2.2.2.2.2
set_option maxRecDepth 20000 in
theorem ct_TC_takeLock {l : Launch} {M : mm_M} {Q : Option Value → mm_M → Prop} {g : Nat → Nat} {S : ss_} (hS : rp_ g M S) {c i : Nat} (hc : c < 4) (hi : i < 12) (hci : ci_ S) (hQ : tl_ S c i (fun r S' => ∀ M', rp_ g M' S' → Q (some (.int r)) M')) : ct_ l yy_TC_takeLock bb_TC_takeLock 4 (some .int) 4 3 16 [.ref (g 0), .ref (g (40 + c)), .int (nI i)] M Q := by
  refine ct_of (by decide) (Nat.le_of_ble_eq_true rfl) (fun G A => ?_)
  unfold tl_ at hQ
  refine jj_aload_n 0 dd_TC_takeLock_0 rfl ?_
  refine jj_tc3 hS dd_TC_takeLock_1 ff_TC_38 ?_
  refine jj_iload_n 2 dd_TC_takeLock_4 rfl ?_
  refine jj_at3 (i) hS dd_TC_takeLock_5 (by omega) rfl ?_
  refine jj_astore_n (lv' := [(3, .ref (g (20 + i))), (0, .ref (g 0)), (1, .ref (g (40 + c))), (2, .int (nI (i)))]) dd_TC_takeLock_6 (Nat.le_of_ble_eq_true rfl) rfl ?_
  refine jj_aload_n 0 dd_TC_takeLock_7 rfl ?_
  refine jj_home hS dd_TC_takeLock_8 ff_TC_95 (by omega) ?_
  refine jj_gS hS dd_TC_takeLock_11 ff_TC_104 (ok_t (by omega)) (fun _ => rfl) ?_
  refine jj_aload_n 2 dd_TC_takeLock_14 rfl ?_
  refine jj_gS hS dd_TC_takeLock_15 ff_TC_81 (ok_x hc) (fun _ => rfl) ?_
  refine jj_icmp_gt (tgt := 32) dd_TC_takeLock_18 (by decide) (fun h18 => ?_) (fun h18 => ?_)
  · skip
    refine jj_aload_n 2 dd_TC_takeLock_32 rfl ?_
    refine jj_callS [.ref (g (40 + c))] [] 0 0 dd_TC_takeLock_33 cs_TC_252 ci_TC_252 rfl (Nat.le_of_ble_eq_true rfl) ⟨(Nat.le_of_ble_eq_true rfl), (Nat.le_of_ble_eq_true rfl)⟩ ⟨(Nat.le_of_ble_eq_true rfl), (Nat.le_of_ble_eq_true rfl)⟩ rfl (ct_TC_endByConflict hS hc (fun M hS => ?_))
    refine jj_iret dd_TC_takeLock_36 rfl rfl ?_
    rw [if_pos h18] at hQ
    exact hQ _ hS
  · skip
    refine jj_aload_n 0 dd_TC_takeLock_21 rfl ?_
    refine jj_aload_n 2 dd_TC_takeLock_22 rfl ?_
    refine jj_gS hS dd_TC_takeLock_23 ff_TC_81 (ok_x hc) (fun _ => rfl) ?_
    refine jj_callV (ci := 3) [_] [] 3 16 dd_TC_takeLock_26 cs_TC_249 ci_TC_249 (hS.1.1 _ _ (ok_c (by omega))) ⟨by decide, rfl⟩ rfl (Nat.le_of_ble_eq_true rfl) ⟨(Nat.le_of_ble_eq_true rfl), (Nat.le_of_ble_eq_true rfl)⟩ ⟨(Nat.le_of_ble_eq_true rfl), (Nat.le_of_ble_eq_true rfl)⟩ rfl (ct_Ce_overtakes hS hi ?_)
    refine jj_if_eq (tgt := 37) dd_TC_takeLock_29 (by decide) (fun h29 => ?_) (fun h29 => ?_)
    · skip
      refine jj_aload_n 1 dd_TC_takeLock_37 rfl ?_
      refine jj_aload_n 0 dd_TC_takeLock_38 rfl ?_
      rw [if_neg h18, if_pos h29] at hQ
      refine jj_callV (ci := 0) [.ref (g (20 + i))] [] 1 6 dd_TC_takeLock_39 cs_TC_115 ci_TC_115 (hS.1.1 _ _ rfl) ⟨by decide, rfl⟩ rfl (Nat.le_of_ble_eq_true rfl) ⟨(Nat.le_of_ble_eq_true rfl), (Nat.le_of_ble_eq_true rfl)⟩ ⟨(Nat.le_of_ble_eq_true rfl), (Nat.le_of_ble_eq_true rfl)⟩ rfl (ct_TC_clearUp hS hi hci (cu_mono hi hci (fun r S1 hb1 hQ M hS => ?_) hQ))
      refine jj_bipush (v := -2) dd_TC_takeLock_42 rfl ?_
      refine jj_icmp_ne (tgt := 50) dd_TC_takeLock_44 (by decide) (fun h44 => ?_) (fun h44 => ?_)
      · skip
        refine jj_aload_n 0 dd_TC_takeLock_50 rfl ?_
        refine jj_aload_n 2 dd_TC_takeLock_51 rfl ?_
        refine jj_gS hS dd_TC_takeLock_52 ff_TC_81 (ok_x hc) (fun _ => rfl) ?_
        refine jj_callV (ci := 3) [_] [] 1 6 dd_TC_takeLock_55 cs_TC_249 ci_TC_249 (hS.1.1 _ _ (ok_c (by omega))) ⟨by decide, rfl⟩ rfl (Nat.le_of_ble_eq_true rfl) ⟨(Nat.le_of_ble_eq_true rfl), (Nat.le_of_ble_eq_true rfl)⟩ ⟨(Nat.le_of_ble_eq_true rfl), (Nat.le_of_ble_eq_true rfl)⟩ rfl (ct_Ce_overtakes hS hi ?_)
        refine jj_if_eq (tgt := 66) dd_TC_takeLock_58 (by decide) (fun h58 => ?_) (fun h58 => ?_)
        · skip
          refine jj_aload_n 0 dd_TC_takeLock_66 rfl ?_
          refine jj_aload_n 2 dd_TC_takeLock_67 rfl ?_
          refine jj_iload_n 3 dd_TC_takeLock_68 rfl ?_
          refine jj_aload_n 1 dd_TC_takeLock_69 rfl ?_
          refine jj_gS hS dd_TC_takeLock_70 ff_TC_162 rfl (fun _ => rfl) ?_
          rw [if_neg h44, if_pos h58] at hQ
          unfold tll_ at hQ
          refine jj_callV (ci := 6) [_, _] [.ref (g (20 + i))] 0 0 dd_TC_takeLock_73 cs_TC_255 ci_TC_255 (hS.1.1 _ _ (ok_x hc)) ⟨by decide, rfl⟩ rfl (Nat.le_of_ble_eq_true rfl) ⟨(Nat.le_of_ble_eq_true rfl), (Nat.le_of_ble_eq_true rfl)⟩ ⟨(Nat.le_of_ble_eq_true rfl), (Nat.le_of_ble_eq_true rfl)⟩ rfl (ks_Tr_lockFor hS hc hi (fun M a hS ka fa => ?_))
          refine jj_callV (ci := 3) [.ref a] [] 0 0 dd_TC_takeLock_76 cs_TC_259 ci_TC_259 (hS.1.1 _ _ (ok_c (by omega))) ⟨by decide, rfl⟩ rfl (Nat.le_of_ble_eq_true rfl) ⟨(Nat.le_of_ble_eq_true rfl), (Nat.le_of_ble_eq_true rfl)⟩ ⟨(Nat.le_of_ble_eq_true rfl), (Nat.le_of_ble_eq_true rfl)⟩ rfl (ct_Ce_writeLock hS hi ka fa (hb1 _ (by omega)) (fun M hS => ?_))
          refine jj_if_eq (tgt := 86) dd_TC_takeLock_79 (by decide) (fun h79 => ?_) (fun h79 => ?_)
          · skip
            refine jj_bipush (v := -2) dd_TC_takeLock_86 rfl ?_
            refine jj_iret dd_TC_takeLock_88 rfl rfl ?_
            rw [if_pos h79] at hQ
            exact hQ _ hS
          · skip
            refine jj_iconst (v := 1) dd_TC_takeLock_82 rfl ?_
            refine jj_goto (tgt := 88) dd_TC_takeLock_83 (by decide) ?_
            refine jj_iret dd_TC_takeLock_88 rfl rfl ?_
            rw [if_neg h79] at hQ
            exact hQ _ hS
        · skip
          refine jj_aload_n 2 dd_TC_takeLock_61 rfl ?_
          refine jj_callS [.ref (g (40 + c))] [] 0 0 dd_TC_takeLock_62 cs_TC_252 ci_TC_252 rfl (Nat.le_of_ble_eq_true rfl) ⟨(Nat.le_of_ble_eq_true rfl), (Nat.le_of_ble_eq_true rfl)⟩ ⟨(Nat.le_of_ble_eq_true rfl), (Nat.le_of_ble_eq_true rfl)⟩ rfl (ct_TC_endByConflict hS hc (fun M hS => ?_))
          refine jj_iret dd_TC_takeLock_65 rfl rfl ?_
          rw [if_neg h44, if_neg h58] at hQ
          exact hQ _ hS
      · skip
        refine jj_bipush (v := -2) dd_TC_takeLock_47 rfl ?_
        refine jj_iret dd_TC_takeLock_49 rfl rfl ?_
        rw [if_pos h44] at hQ
        exact hQ _ hS
    · skip
      refine jj_aload_n 2 dd_TC_takeLock_32 rfl ?_
      refine jj_callS [.ref (g (40 + c))] [] 0 0 dd_TC_takeLock_33 cs_TC_252 ci_TC_252 rfl (Nat.le_of_ble_eq_true rfl) ⟨(Nat.le_of_ble_eq_true rfl), (Nat.le_of_ble_eq_true rfl)⟩ ⟨(Nat.le_of_ble_eq_true rfl), (Nat.le_of_ble_eq_true rfl)⟩ rfl (ct_TC_endByConflict hS hc (fun M hS => ?_))
      refine jj_iret dd_TC_takeLock_36 rfl rfl ?_
      rw [if_neg h18, if_neg h29] at hQ
      exact hQ _ hS
set_option maxRecDepth 20000 in
theorem ct_TC_prewrite {l : Launch} {M : mm_M} {Q : Option Value → mm_M → Prop} {g : Nat → Nat} {S : ss_} (hS : rp_ g M S) {c : Nat} (hc : c < 4) (hci : ci_ S) (hQ : pwC_ S c (fun r S' => ∀ M', rp_ g M' S' → Q (some (.int r)) M')) : ct_ l yy_TC_prewrite bb_TC_prewrite 4 (some .int) 5 3 16 [.ref (g 0), .ref (g (40 + c))] M Q := by
  refine ct_of (by decide) (Nat.le_of_ble_eq_true rfl) (fun G A => ?_)
  unfold pwC_ at hQ
  refine jj_aload_n 1 dd_TC_prewrite_0 rfl ?_
  refine jj_gS hS dd_TC_prewrite_1 ff_TC_218 (ok_x hc) (fun _ => rfl) ?_
  refine jj_aload_n 1 dd_TC_prewrite_4 rfl ?_
  refine jj_gS hS dd_TC_prewrite_5 ff_TC_221 (ok_x hc) (fun _ => rfl) ?_
  refine jj_iconst (v := (-1)) dd_TC_prewrite_8 rfl ?_
  refine jj_ixor dd_TC_prewrite_9 ?_
  refine jj_iand dd_TC_prewrite_10 ?_
  refine jj_callS [_] [] 3 16 dd_TC_prewrite_11 cs_TC_239 ci_TC_239 rfl (Nat.le_of_ble_eq_true rfl) ⟨(Nat.le_of_ble_eq_true rfl), (Nat.le_of_ble_eq_true rfl)⟩ ⟨(Nat.le_of_ble_eq_true rfl), (Nat.le_of_ble_eq_true rfl)⟩ rfl (ks_TC_leastOf ?_)
  obtain ⟨i, hie⟩ : ∃ i, i = (le_ (S.1 (40 + c) 6 &&& (S.1 (40 + c) 8 ^^^ (-1)))) := ⟨_, rfl⟩
  rw [← hie] at hQ
  have hi : i < 12 := by rw [hie]; exact le_L _
  rw [show nI (le_ (S.1 (40 + c) 6 &&& (S.1 (40 + c) 8 ^^^ (-1)))) = nI i by rw [hie]]
  unfold pw1_ at hQ
  refine jj_istore_n (lv' := [(2, .int (nI (i))), (0, .ref (g 0)), (1, .ref (g (40 + c)))]) dd_TC_prewrite_14 (Nat.le_of_ble_eq_true rfl) rfl ?_
  refine jj_aload_n 1 dd_TC_prewrite_15 rfl ?_
  refine jj_tc3 hS dd_TC_prewrite_16 ff_TC_38 ?_
  refine jj_iload_n 0 dd_TC_prewrite_19 rfl ?_
  refine jj_at3 (i) hS dd_TC_prewrite_20 (by omega) rfl ?_
  refine jj_home hS dd_TC_prewrite_21 ff_TC_95 (by omega) ?_
  refine jj_gS hS dd_TC_prewrite_24 ff_TC_99 (ok_t (by omega)) (fun _ => rfl) ?_
  refine jj_if_ne (tgt := 33) dd_TC_prewrite_27 (by decide) (fun h27 => ?_) (fun h27 => ?_)
  · skip
    refine jj_aload_n 1 dd_TC_prewrite_33 rfl ?_
    refine jj_tc3 hS dd_TC_prewrite_34 ff_TC_38 ?_
    refine jj_iload_n 0 dd_TC_prewrite_37 rfl ?_
    refine jj_at3 (i) hS dd_TC_prewrite_38 (by omega) rfl ?_
    refine jj_aload_n 2 dd_TC_prewrite_39 rfl ?_
    refine jj_gS hS dd_TC_prewrite_40 ff_TC_81 (ok_x hc) (fun _ => rfl) ?_
    refine jj_callV (ci := 3) [_] [] 3 16 dd_TC_prewrite_43 cs_TC_242 ci_TC_242 (hS.1.1 _ _ (ok_c (by omega))) ⟨by decide, rfl⟩ rfl (Nat.le_of_ble_eq_true rfl) ⟨(Nat.le_of_ble_eq_true rfl), (Nat.le_of_ble_eq_true rfl)⟩ ⟨(Nat.le_of_ble_eq_true rfl), (Nat.le_of_ble_eq_true rfl)⟩ rfl (ct_Ce_isLockedBy hS hi ?_)
    refine jj_if_ne (tgt := 63) dd_TC_prewrite_46 (by decide) (fun h46 => ?_) (fun h46 => ?_)
    · skip
      refine jj_aload_n 2 dd_TC_prewrite_63 rfl ?_
      refine jj_dup dd_TC_prewrite_64 rfl ?_
      refine jj_gS hS dd_TC_prewrite_65 ff_TC_221 (ok_x hc) (fun _ => rfl) ?_
      refine jj_iconst (v := 1) dd_TC_prewrite_68 rfl ?_
      refine jj_iload_n 0 dd_TC_prewrite_69 rfl ?_
      refine jj_ishl dd_TC_prewrite_70 ?_
      refine jj_ior dd_TC_prewrite_71 ?_
      refine jj_pS hS dd_TC_prewrite_72 ⟨ff_TC_221, rfl⟩ (ok_x hc) (fun _ => rfl) ⟨rfl, rfl⟩ (fun M hS => ?_)
      refine jj_iconst (v := 1) dd_TC_prewrite_75 rfl ?_
      refine jj_iret dd_TC_prewrite_76 rfl rfl ?_
      rw [if_neg h27, if_neg h46] at hQ
      exact hQ _ hS
    · skip
      refine jj_aload_n 1 dd_TC_prewrite_49 rfl ?_
      refine jj_aload_n 2 dd_TC_prewrite_50 rfl ?_
      refine jj_iload_n 0 dd_TC_prewrite_51 rfl ?_
      rw [if_neg h27, if_pos h46] at hQ
      refine jj_callV (ci := 0) [.ref (g (40 + c)), _] [] 0 0 dd_TC_prewrite_52 cs_TC_245 ci_TC_245 (hS.1.1 _ _ rfl) ⟨by decide, rfl⟩ rfl (Nat.le_of_ble_eq_true rfl) ⟨(Nat.le_of_ble_eq_true rfl), (Nat.le_of_ble_eq_true rfl)⟩ ⟨(Nat.le_of_ble_eq_true rfl), (Nat.le_of_ble_eq_true rfl)⟩ rfl (ct_TC_takeLock hS hc hi hci (tl_mono hi hci (fun r S1 hQ M hS => ?_) hQ))
      refine jj_istore_n (lv' := [(3, .int _), (2, .int (nI (i))), (0, .ref (g 0)), (1, .ref (g (40 + c)))]) dd_TC_prewrite_55 (Nat.le_of_ble_eq_true rfl) rfl ?_
      refine jj_iload_n 0 dd_TC_prewrite_56 rfl ?_
      refine jj_iconst (v := 1) dd_TC_prewrite_57 rfl ?_
      refine jj_icmp_eq (tgt := 63) dd_TC_prewrite_58 (by decide) (fun h58 => ?_) (fun h58 => ?_)
      · skip
        refine jj_aload_n 3 dd_TC_prewrite_63 rfl ?_
        refine jj_dup dd_TC_prewrite_64 rfl ?_
        refine jj_gS hS dd_TC_prewrite_65 ff_TC_221 (ok_x hc) (fun _ => rfl) ?_
        refine jj_iconst (v := 1) dd_TC_prewrite_68 rfl ?_
        refine jj_iload_n 1 dd_TC_prewrite_69 rfl ?_
        refine jj_ishl dd_TC_prewrite_70 ?_
        refine jj_ior dd_TC_prewrite_71 ?_
        refine jj_pS hS dd_TC_prewrite_72 ⟨ff_TC_221, rfl⟩ (ok_x hc) (fun _ => rfl) ⟨rfl, rfl⟩ (fun M hS => ?_)
        refine jj_iconst (v := 1) dd_TC_prewrite_75 rfl ?_
        refine jj_iret dd_TC_prewrite_76 rfl rfl ?_
        rw [if_pos h58] at hQ
        exact hQ _ hS
      · skip
        refine jj_iload_n 0 dd_TC_prewrite_61 rfl ?_
        refine jj_iret dd_TC_prewrite_62 rfl rfl ?_
        rw [if_neg h58] at hQ
        exact hQ _ hS
  · skip
    refine jj_bipush (v := -2) dd_TC_prewrite_30 rfl ?_
    refine jj_iret dd_TC_prewrite_32 rfl rfl ?_
    rw [if_pos h27] at hQ
    exact hQ _ hS
set_option maxRecDepth 20000 in
theorem ct_TC_decide {l : Launch} {M : mm_M} {Q : Option Value → mm_M → Prop} {g : Nat → Nat} {S : ss_} (hS : rp_ g M S) {c : Nat} (hc : c < 4) (hci : ci_ S) (hQ : dcC_ S c (fun r S' => ∀ M', rp_ g M' S' → Q (some (.int r)) M')) : ct_ l yy_TC_decide bb_TC_decide 3 (some .int) 3 1 5 [.ref (g 0), .ref (g (40 + c))] M Q := by
  refine ct_of (by decide) (Nat.le_of_ble_eq_true rfl) (fun G A => ?_)
  unfold dcC_ at hQ
  refine jj_aload_n 0 dd_TC_decide_0 rfl ?_
  refine jj_tc3 hS dd_TC_decide_1 ff_TC_38 ?_
  refine jj_aload_n 1 dd_TC_decide_4 rfl ?_
  refine jj_callV (ci := 6) [] [.ref (g 3)] 1 5 dd_TC_decide_5 cs_TC_262 ci_TC_262 (hS.1.1 _ _ (ok_x hc)) ⟨by decide, rfl⟩ rfl (Nat.le_of_ble_eq_true rfl) ⟨(Nat.le_of_ble_eq_true rfl), (Nat.le_of_ble_eq_true rfl)⟩ ⟨(Nat.le_of_ble_eq_true rfl), (Nat.le_of_ble_eq_true rfl)⟩ rfl (ks_Tr_primary hS hc ?_)
  obtain ⟨p, hpe⟩ : ∃ p, p = le_ (S.1 (40 + c) 6) := ⟨_, rfl⟩
  rw [← hpe] at hQ
  have hp : p < 12 := by rw [hpe]; exact le_L _
  rw [show nI (le_ (S.1 (40 + c) 6)) = nI p by rw [hpe]]
  unfold dc0_ at hQ
  refine jj_at3 (p) hS dd_TC_decide_8 (by omega) rfl ?_
  refine jj_astore_n (lv' := [(2, .ref (g (20 + p))), (0, .ref (g 0)), (1, .ref (g (40 + c)))]) dd_TC_decide_9 (Nat.le_of_ble_eq_true rfl) rfl ?_
  refine jj_aload_n 0 dd_TC_decide_10 rfl ?_
  refine jj_home hS dd_TC_decide_11 ff_TC_95 (by omega) ?_
  refine jj_gS hS dd_TC_decide_14 ff_TC_99 (ok_t (by omega)) (fun _ => rfl) ?_
  refine jj_if_ne (tgt := 23) dd_TC_decide_17 (by decide) (fun h17 => ?_) (fun h17 => ?_)
  · skip
    refine jj_aload_n 0 dd_TC_decide_23 rfl ?_
    refine jj_aload_n 2 dd_TC_decide_24 rfl ?_
    refine jj_gS hS dd_TC_decide_25 ff_TC_81 (ok_x hc) (fun _ => rfl) ?_
    rw [if_neg h17] at hQ
    refine jj_callV (ci := 3) [_] [] 1 5 dd_TC_decide_28 cs_TC_265 ci_TC_265 (hS.1.1 _ _ (ok_c (by omega))) ⟨by decide, rfl⟩ rfl (Nat.le_of_ble_eq_true rfl) ⟨(Nat.le_of_ble_eq_true rfl), (Nat.le_of_ble_eq_true rfl)⟩ ⟨(Nat.le_of_ble_eq_true rfl), (Nat.le_of_ble_eq_true rfl)⟩ rfl (ct_Ce_versionWrittenBy hS hp ⟨fun hv => ?_, fun b v hv hbk hbv => ?_⟩)
    · skip
      rw [hv] at hQ
      simp only [dc1_] at hQ
      refine jj_ifnonnullN dd_TC_decide_31 ?_
      refine jj_aload_n 0 dd_TC_decide_34 rfl ?_
      refine jj_aload_n 2 dd_TC_decide_35 rfl ?_
      refine jj_gS hS dd_TC_decide_36 ff_TC_81 (ok_x hc) (fun _ => rfl) ?_
      refine jj_callV (ci := 3) [_] [] 1 5 dd_TC_decide_39 cs_TC_242 ci_TC_242 (hS.1.1 _ _ (ok_c (by omega))) ⟨by decide, rfl⟩ rfl (Nat.le_of_ble_eq_true rfl) ⟨(Nat.le_of_ble_eq_true rfl), (Nat.le_of_ble_eq_true rfl)⟩ ⟨(Nat.le_of_ble_eq_true rfl), (Nat.le_of_ble_eq_true rfl)⟩ rfl (ct_Ce_isLockedBy hS hp ?_)
      refine jj_if_ne (tgt := 50) dd_TC_decide_42 (by decide) (fun h42 => ?_) (fun h42 => ?_)
      · skip
        obtain ⟨f, hL, hf⟩ := lb_some h42
        refine jj_aload_n 0 dd_TC_decide_50 rfl ?_
        refine jj_aload_n 2 dd_TC_decide_51 rfl ?_
        refine jj_gS hS dd_TC_decide_52 ff_TC_227 (ok_x hc) (fun _ => rfl) ?_
        rw [if_neg h42] at hQ
        rw [hL] at hQ
        simp only [dc2_] at hQ
        refine jj_callV (ci := 3) [_] [] 0 0 dd_TC_decide_55 cs_TC_268 ci_TC_268 (hS.1.1 _ _ (ok_c (by omega))) ⟨by decide, rfl⟩ rfl (Nat.le_of_ble_eq_true rfl) ⟨(Nat.le_of_ble_eq_true rfl), (Nat.le_of_ble_eq_true rfl)⟩ ⟨(Nat.le_of_ble_eq_true rfl), (Nat.le_of_ble_eq_true rfl)⟩ rfl (ct_Ce_writeDone hS hp hL (hci.1 _ (by omega)) (hci.2.1 p hp) (fun M hS => ?_))
        refine jj_if_ne (tgt := 64) dd_TC_decide_58 (by decide) (fun h58 => ?_) (fun h58 => ?_)
        · skip
          refine jj_aload_n 2 dd_TC_decide_64 rfl ?_
          refine jj_iconst (v := 1) dd_TC_decide_65 rfl ?_
          refine jj_pS hS dd_TC_decide_66 ⟨ff_TC_230, rfl⟩ (ok_x hc) (fun _ => rfl) ⟨rfl, rfl⟩ (fun M hS => ?_)
          refine jj_aload_n 2 dd_TC_decide_69 rfl ?_
          refine jj_iconst (v := 1) dd_TC_decide_70 rfl ?_
          refine jj_aload_n 2 dd_TC_decide_71 rfl ?_
          refine jj_callV (ci := 6) [] [_, .ref (g (40 + c))] 0 0 dd_TC_decide_72 cs_TC_262 ci_TC_262 (hS.1.1 _ _ (ok_x hc)) ⟨by decide, rfl⟩ rfl (Nat.le_of_ble_eq_true rfl) ⟨(Nat.le_of_ble_eq_true rfl), (Nat.le_of_ble_eq_true rfl)⟩ ⟨(Nat.le_of_ble_eq_true rfl), (Nat.le_of_ble_eq_true rfl)⟩ rfl (ks_Tr_primary hS hc ?_)
          refine jj_ishl dd_TC_decide_75 ?_
          refine jj_pS hS dd_TC_decide_76 ⟨ff_TC_271, rfl⟩ (ok_x hc) (fun _ => rfl) ⟨rfl, rfl⟩ (fun M hS => ?_)
          refine jj_aload_n 2 dd_TC_decide_79 rfl ?_
          rw [if_neg h58] at hQ
          unfold dcf_ at hQ
          refine jj_callV (ci := 6) [] [] 0 0 dd_TC_decide_80 cs_TC_274 ci_TC_274 (hS.1.1 _ _ (ok_x hc)) ⟨by decide, rfl⟩ rfl (Nat.le_of_ble_eq_true rfl) ⟨(Nat.le_of_ble_eq_true rfl), (Nat.le_of_ble_eq_true rfl)⟩ ⟨(Nat.le_of_ble_eq_true rfl), (Nat.le_of_ble_eq_true rfl)⟩ rfl (ks_Tr_endIfAllFollowed hS hc (fun h80 => ?_) (fun h80 M hS => ?_))
          · skip
            have hQ := ite_n h80 hQ
            refine jj_if_eq (tgt := 90) dd_TC_decide_83 (by decide) (fun _ => ?_) (fun h => absurd h (by decide))
            refine jj_iconst (v := 3) dd_TC_decide_90 rfl ?_
            refine jj_iret dd_TC_decide_91 rfl rfl ?_
            exact hQ _ hS
          · skip
            have hQ := ite_p h80 hQ
            refine jj_if_eq (tgt := 90) dd_TC_decide_83 (by decide) (fun h => absurd h (by decide)) (fun _ => ?_)
            refine jj_iconst (v := 4) dd_TC_decide_86 rfl ?_
            refine jj_goto (tgt := 91) dd_TC_decide_87 (by decide) ?_
            refine jj_iret dd_TC_decide_91 rfl rfl ?_
            exact hQ _ hS
        · skip
          refine jj_bipush (v := -2) dd_TC_decide_61 rfl ?_
          refine jj_iret dd_TC_decide_63 rfl rfl ?_
          rw [if_pos h58] at hQ
          exact hQ _ hS
      · skip
        refine jj_aload_n 2 dd_TC_decide_45 rfl ?_
        refine jj_callS [.ref (g (40 + c))] [] 0 0 dd_TC_decide_46 cs_TC_252 ci_TC_252 rfl (Nat.le_of_ble_eq_true rfl) ⟨(Nat.le_of_ble_eq_true rfl), (Nat.le_of_ble_eq_true rfl)⟩ ⟨(Nat.le_of_ble_eq_true rfl), (Nat.le_of_ble_eq_true rfl)⟩ rfl (ct_TC_endByConflict hS hc (fun M hS => ?_))
        refine jj_iret dd_TC_decide_49 rfl rfl ?_
        rw [if_pos h42] at hQ
        exact hQ _ hS
    · skip
      rw [hv] at hQ
      simp only [dc1_] at hQ
      refine jj_ifnonnull (tgt := 64) dd_TC_decide_31 (by decide) ?_
      refine jj_aload_n 2 dd_TC_decide_64 rfl ?_
      refine jj_iconst (v := 1) dd_TC_decide_65 rfl ?_
      refine jj_pS hS dd_TC_decide_66 ⟨ff_TC_230, rfl⟩ (ok_x hc) (fun _ => rfl) ⟨rfl, rfl⟩ (fun M hS => ?_)
      refine jj_aload_n 2 dd_TC_decide_69 rfl ?_
      refine jj_iconst (v := 1) dd_TC_decide_70 rfl ?_
      refine jj_aload_n 2 dd_TC_decide_71 rfl ?_
      refine jj_callV (ci := 6) [] [_, .ref (g (40 + c))] 0 0 dd_TC_decide_72 cs_TC_262 ci_TC_262 (hS.1.1 _ _ (ok_x hc)) ⟨by decide, rfl⟩ rfl (Nat.le_of_ble_eq_true rfl) ⟨(Nat.le_of_ble_eq_true rfl), (Nat.le_of_ble_eq_true rfl)⟩ ⟨(Nat.le_of_ble_eq_true rfl), (Nat.le_of_ble_eq_true rfl)⟩ rfl (ks_Tr_primary hS hc ?_)
      refine jj_ishl dd_TC_decide_75 ?_
      refine jj_pS hS dd_TC_decide_76 ⟨ff_TC_271, rfl⟩ (ok_x hc) (fun _ => rfl) ⟨rfl, rfl⟩ (fun M hS => ?_)
      refine jj_aload_n 2 dd_TC_decide_79 rfl ?_
      unfold dcf_ at hQ
      refine jj_callV (ci := 6) [] [] 0 0 dd_TC_decide_80 cs_TC_274 ci_TC_274 (hS.1.1 _ _ (ok_x hc)) ⟨by decide, rfl⟩ rfl (Nat.le_of_ble_eq_true rfl) ⟨(Nat.le_of_ble_eq_true rfl), (Nat.le_of_ble_eq_true rfl)⟩ ⟨(Nat.le_of_ble_eq_true rfl), (Nat.le_of_ble_eq_true rfl)⟩ rfl (ks_Tr_endIfAllFollowed hS hc (fun h80 => ?_) (fun h80 M hS => ?_))
      · skip
        have hQ := ite_n h80 hQ
        refine jj_if_eq (tgt := 90) dd_TC_decide_83 (by decide) (fun _ => ?_) (fun h => absurd h (by decide))
        refine jj_iconst (v := 3) dd_TC_decide_90 rfl ?_
        refine jj_iret dd_TC_decide_91 rfl rfl ?_
        exact hQ _ hS
      · skip
        have hQ := ite_p h80 hQ
        refine jj_if_eq (tgt := 90) dd_TC_decide_83 (by decide) (fun h => absurd h (by decide)) (fun _ => ?_)
        refine jj_iconst (v := 4) dd_TC_decide_86 rfl ?_
        refine jj_goto (tgt := 91) dd_TC_decide_87 (by decide) ?_
        refine jj_iret dd_TC_decide_91 rfl rfl ?_
        exact hQ _ hS
  · skip
    refine jj_bipush (v := -2) dd_TC_decide_20 rfl ?_
    refine jj_iret dd_TC_decide_22 rfl rfl ?_
    rw [if_pos h17] at hQ
    exact hQ _ hS
set_option maxRecDepth 20000 in
theorem ct_TC_follow {l : Launch} {M : mm_M} {Q : Option Value → mm_M → Prop} {g : Nat → Nat} {S : ss_} (hS : rp_ g M S) {c : Nat} (hc : c < 4) (hci : ci_ S) (hQ : foC_ S c (fun r S' => ∀ M', rp_ g M' S' → Q (some (.int r)) M')) : ct_ l yy_TC_follow bb_TC_follow 4 (some .int) 3 1 5 [.ref (g 0), .ref (g (40 + c))] M Q := by
  refine ct_of (by decide) (Nat.le_of_ble_eq_true rfl) (fun G A => ?_)
  unfold foC_ at hQ
  refine jj_aload_n 1 dd_TC_follow_0 rfl ?_
  refine jj_gS hS dd_TC_follow_1 ff_TC_218 (ok_x hc) (fun _ => rfl) ?_
  refine jj_aload_n 1 dd_TC_follow_4 rfl ?_
  refine jj_gS hS dd_TC_follow_5 ff_TC_271 (ok_x hc) (fun _ => rfl) ?_
  refine jj_iconst (v := (-1)) dd_TC_follow_8 rfl ?_
  refine jj_ixor dd_TC_follow_9 ?_
  refine jj_iand dd_TC_follow_10 ?_
  refine jj_callS [_] [] 1 5 dd_TC_follow_11 cs_TC_239 ci_TC_239 rfl (Nat.le_of_ble_eq_true rfl) ⟨(Nat.le_of_ble_eq_true rfl), (Nat.le_of_ble_eq_true rfl)⟩ ⟨(Nat.le_of_ble_eq_true rfl), (Nat.le_of_ble_eq_true rfl)⟩ rfl (ks_TC_leastOf ?_)
  obtain ⟨i, hie⟩ : ∃ i, i = (le_ (S.1 (40 + c) 6 &&& (S.1 (40 + c) 9 ^^^ (-1)))) := ⟨_, rfl⟩
  rw [← hie] at hQ
  have hi : i < 12 := by rw [hie]; exact le_L _
  rw [show nI (le_ (S.1 (40 + c) 6 &&& (S.1 (40 + c) 9 ^^^ (-1)))) = nI i by rw [hie]]
  unfold fo1_ at hQ
  refine jj_istore_n (lv' := [(2, .int (nI (i))), (0, .ref (g 0)), (1, .ref (g (40 + c)))]) dd_TC_follow_14 (Nat.le_of_ble_eq_true rfl) rfl ?_
  refine jj_aload_n 1 dd_TC_follow_15 rfl ?_
  refine jj_tc3 hS dd_TC_follow_16 ff_TC_38 ?_
  refine jj_iload_n 0 dd_TC_follow_19 rfl ?_
  refine jj_at3 (i) hS dd_TC_follow_20 (by omega) rfl ?_
  refine jj_astore_n (lv' := [(3, .ref (g (20 + i))), (2, .int (nI (i))), (0, .ref (g 0)), (1, .ref (g (40 + c)))]) dd_TC_follow_21 (Nat.le_of_ble_eq_true rfl) rfl ?_
  refine jj_aload_n 0 dd_TC_follow_22 rfl ?_
  refine jj_home hS dd_TC_follow_23 ff_TC_95 (by omega) ?_
  refine jj_gS hS dd_TC_follow_26 ff_TC_99 (ok_t (by omega)) (fun _ => rfl) ?_
  refine jj_if_ne (tgt := 35) dd_TC_follow_29 (by decide) (fun h29 => ?_) (fun h29 => ?_)
  · skip
    refine jj_aload_n 0 dd_TC_follow_35 rfl ?_
    refine jj_aload_n 3 dd_TC_follow_36 rfl ?_
    refine jj_gS hS dd_TC_follow_37 ff_TC_81 (ok_x hc) (fun _ => rfl) ?_
    refine jj_callV (ci := 3) [_] [] 1 5 dd_TC_follow_40 cs_TC_242 ci_TC_242 (hS.1.1 _ _ (ok_c (by omega))) ⟨by decide, rfl⟩ rfl (Nat.le_of_ble_eq_true rfl) ⟨(Nat.le_of_ble_eq_true rfl), (Nat.le_of_ble_eq_true rfl)⟩ ⟨(Nat.le_of_ble_eq_true rfl), (Nat.le_of_ble_eq_true rfl)⟩ rfl (ct_Ce_isLockedBy hS hi ?_)
    refine jj_if_eq (tgt := 60) dd_TC_follow_43 (by decide) (fun h43 => ?_) (fun h43 => ?_)
    · skip
      refine jj_aload_n 3 dd_TC_follow_60 rfl ?_
      refine jj_dup dd_TC_follow_61 rfl ?_
      refine jj_gS hS dd_TC_follow_62 ff_TC_271 (ok_x hc) (fun _ => rfl) ?_
      refine jj_iconst (v := 1) dd_TC_follow_65 rfl ?_
      refine jj_iload_n 1 dd_TC_follow_66 rfl ?_
      refine jj_ishl dd_TC_follow_67 ?_
      refine jj_ior dd_TC_follow_68 ?_
      refine jj_pS hS dd_TC_follow_69 ⟨ff_TC_271, rfl⟩ (ok_x hc) (fun _ => rfl) ⟨rfl, rfl⟩ (fun M hS => ?_)
      refine jj_aload_n 3 dd_TC_follow_72 rfl ?_
      rw [if_neg h29, if_pos h43] at hQ
      unfold fof_ at hQ
      refine jj_callV (ci := 6) [] [] 0 0 dd_TC_follow_73 cs_TC_274 ci_TC_274 (hS.1.1 _ _ (ok_x hc)) ⟨by decide, rfl⟩ rfl (Nat.le_of_ble_eq_true rfl) ⟨(Nat.le_of_ble_eq_true rfl), (Nat.le_of_ble_eq_true rfl)⟩ ⟨(Nat.le_of_ble_eq_true rfl), (Nat.le_of_ble_eq_true rfl)⟩ rfl (ks_Tr_endIfAllFollowed hS hc (fun h80 => ?_) (fun h80 M hS => ?_))
      · skip
        have hQ := ite_n h80 hQ
        refine jj_if_eq (tgt := 84) dd_TC_follow_76 (by decide) (fun _ => ?_) (fun h => absurd h (by decide))
        refine jj_iconst (v := 5) dd_TC_follow_84 rfl ?_
        refine jj_iret dd_TC_follow_85 rfl rfl ?_
        exact hQ _ hS
      · skip
        have hQ := ite_p h80 hQ
        refine jj_if_eq (tgt := 84) dd_TC_follow_76 (by decide) (fun h => absurd h (by decide)) (fun _ => ?_)
        refine jj_bipush (v := 6) dd_TC_follow_79 rfl ?_
        refine jj_goto (tgt := 85) dd_TC_follow_81 (by decide) ?_
        refine jj_iret dd_TC_follow_85 rfl rfl ?_
        exact hQ _ hS
    · skip
      obtain ⟨f, hL, hf⟩ := lb_some h43
      refine jj_aload_n 0 dd_TC_follow_46 rfl ?_
      refine jj_aload_n 3 dd_TC_follow_47 rfl ?_
      refine jj_gS hS dd_TC_follow_48 ff_TC_227 (ok_x hc) (fun _ => rfl) ?_
      rw [if_neg h29, if_neg h43] at hQ
      rw [hL] at hQ
      simp only [fo2_] at hQ
      refine jj_callV (ci := 3) [_] [] 0 0 dd_TC_follow_51 cs_TC_268 ci_TC_268 (hS.1.1 _ _ (ok_c (by omega))) ⟨by decide, rfl⟩ rfl (Nat.le_of_ble_eq_true rfl) ⟨(Nat.le_of_ble_eq_true rfl), (Nat.le_of_ble_eq_true rfl)⟩ ⟨(Nat.le_of_ble_eq_true rfl), (Nat.le_of_ble_eq_true rfl)⟩ rfl (ct_Ce_writeDone hS hi hL (hci.1 _ (by omega)) (hci.2.1 i hi) (fun M hS => ?_))
      refine jj_if_ne (tgt := 60) dd_TC_follow_54 (by decide) (fun h54 => ?_) (fun h54 => ?_)
      · skip
        refine jj_aload_n 3 dd_TC_follow_60 rfl ?_
        refine jj_dup dd_TC_follow_61 rfl ?_
        refine jj_gS hS dd_TC_follow_62 ff_TC_271 (ok_x hc) (fun _ => rfl) ?_
        refine jj_iconst (v := 1) dd_TC_follow_65 rfl ?_
        refine jj_iload_n 1 dd_TC_follow_66 rfl ?_
        refine jj_ishl dd_TC_follow_67 ?_
        refine jj_ior dd_TC_follow_68 ?_
        refine jj_pS hS dd_TC_follow_69 ⟨ff_TC_271, rfl⟩ (ok_x hc) (fun _ => rfl) ⟨rfl, rfl⟩ (fun M hS => ?_)
        refine jj_aload_n 3 dd_TC_follow_72 rfl ?_
        rw [if_neg h54] at hQ
        unfold fof_ at hQ
        refine jj_callV (ci := 6) [] [] 0 0 dd_TC_follow_73 cs_TC_274 ci_TC_274 (hS.1.1 _ _ (ok_x hc)) ⟨by decide, rfl⟩ rfl (Nat.le_of_ble_eq_true rfl) ⟨(Nat.le_of_ble_eq_true rfl), (Nat.le_of_ble_eq_true rfl)⟩ ⟨(Nat.le_of_ble_eq_true rfl), (Nat.le_of_ble_eq_true rfl)⟩ rfl (ks_Tr_endIfAllFollowed hS hc (fun h80 => ?_) (fun h80 M hS => ?_))
        · skip
          have hQ := ite_n h80 hQ
          refine jj_if_eq (tgt := 84) dd_TC_follow_76 (by decide) (fun _ => ?_) (fun h => absurd h (by decide))
          refine jj_iconst (v := 5) dd_TC_follow_84 rfl ?_
          refine jj_iret dd_TC_follow_85 rfl rfl ?_
          exact hQ _ hS
        · skip
          have hQ := ite_p h80 hQ
          refine jj_if_eq (tgt := 84) dd_TC_follow_76 (by decide) (fun h => absurd h (by decide)) (fun _ => ?_)
          refine jj_bipush (v := 6) dd_TC_follow_79 rfl ?_
          refine jj_goto (tgt := 85) dd_TC_follow_81 (by decide) ?_
          refine jj_iret dd_TC_follow_85 rfl rfl ?_
          exact hQ _ hS
      · skip
        refine jj_bipush (v := -2) dd_TC_follow_57 rfl ?_
        refine jj_iret dd_TC_follow_59 rfl rfl ?_
        rw [if_pos h54] at hQ
        exact hQ _ hS
  · skip
    refine jj_bipush (v := -2) dd_TC_follow_32 rfl ?_
    refine jj_iret dd_TC_follow_34 rfl rfl ?_
    rw [if_pos h29] at hQ
    exact hQ _ hS
set_option maxRecDepth 20000 in
theorem ct_TC_advance {l : Launch} {M : mm_M} {Q : Option Value → mm_M → Prop} {g : Nat → Nat} {S : ss_} (hS : rp_ g M S) {c : Nat} (hc : c < 4) (hci : ci_ S) (hQ : avC_ S c (fun r S' => ∀ M', rp_ g M' S' → Q (some (.int r)) M')) : ct_ l yy_TC_advance bb_TC_advance 2 (some .int) 6 3 16 [.ref (g 0), .ref (g (40 + c))] M Q := by
  refine ct_of (by decide) (Nat.le_of_ble_eq_true rfl) (fun G A => ?_)
  unfold avC_ at hQ
  refine jj_aload_n 1 dd_TC_advance_0 rfl ?_
  refine jj_gS hS dd_TC_advance_1 ff_TC_218 (ok_x hc) (fun _ => rfl) ?_
  refine jj_if_ne (tgt := 14) dd_TC_advance_4 (by decide) (fun h4 => ?_) (fun h4 => ?_)
  · skip
    refine jj_aload_n 1 dd_TC_advance_14 rfl ?_
    refine jj_gS hS dd_TC_advance_15 ff_TC_221 (ok_x hc) (fun _ => rfl) ?_
    refine jj_aload_n 1 dd_TC_advance_18 rfl ?_
    refine jj_gS hS dd_TC_advance_19 ff_TC_218 (ok_x hc) (fun _ => rfl) ?_
    refine jj_icmp_eq (tgt := 31) dd_TC_advance_22 (by decide) (fun h22 => ?_) (fun h22 => ?_)
    · skip
      refine jj_aload_n 1 dd_TC_advance_31 rfl ?_
      refine jj_gS hS dd_TC_advance_32 ff_TC_227 (ok_x hc) (fun _ => rfl) ?_
      refine jj_if_ne (tgt := 51) dd_TC_advance_35 (by decide) (fun h35 => ?_) (fun h35 => ?_)
      · skip
        refine jj_aload_n 1 dd_TC_advance_51 rfl ?_
        refine jj_gS hS dd_TC_advance_52 ff_TC_230 (ok_x hc) (fun _ => rfl) ?_
        refine jj_if_eq (tgt := 66) dd_TC_advance_55 (by decide) (fun h55 => ?_) (fun h55 => ?_)
        · skip
          refine jj_aload_n 0 dd_TC_advance_66 rfl ?_
          refine jj_aload_n 1 dd_TC_advance_67 rfl ?_
          rw [if_neg h4, if_pos h22, if_neg h35, if_pos h55] at hQ
          refine jj_callV (ci := 0) [.ref (g (40 + c))] [] 0 0 dd_TC_advance_68 cs_TC_236 ci_TC_236 (hS.1.1 _ _ rfl) ⟨by decide, rfl⟩ rfl (Nat.le_of_ble_eq_true rfl) ⟨(Nat.le_of_ble_eq_true rfl), (Nat.le_of_ble_eq_true rfl)⟩ ⟨(Nat.le_of_ble_eq_true rfl), (Nat.le_of_ble_eq_true rfl)⟩ rfl (ct_TC_decide hS hc hci (dc0_mono (fun r S1 hQ M hS => ?_) hQ))
          refine jj_iret dd_TC_advance_71 rfl rfl ?_
          exact hQ _ hS
        · skip
          refine jj_aload_n 0 dd_TC_advance_58 rfl ?_
          refine jj_aload_n 1 dd_TC_advance_59 rfl ?_
          rw [if_neg h4, if_pos h22, if_neg h35, if_neg h55] at hQ
          refine jj_callV (ci := 0) [.ref (g (40 + c))] [] 0 0 dd_TC_advance_60 cs_TC_233 ci_TC_233 (hS.1.1 _ _ rfl) ⟨by decide, rfl⟩ rfl (Nat.le_of_ble_eq_true rfl) ⟨(Nat.le_of_ble_eq_true rfl), (Nat.le_of_ble_eq_true rfl)⟩ ⟨(Nat.le_of_ble_eq_true rfl), (Nat.le_of_ble_eq_true rfl)⟩ rfl (ct_TC_follow hS hc hci (fo1_mono (fun r S1 hQ M hS => ?_) hQ))
          refine jj_goto (tgt := 71) dd_TC_advance_63 (by decide) ?_
          refine jj_iret dd_TC_advance_71 rfl rfl ?_
          exact hQ _ hS
      · skip
        refine jj_aload_n 1 dd_TC_advance_38 rfl ?_
        refine jj_aload_n 0 dd_TC_advance_39 rfl ?_
        refine jj_tc1 hS dd_TC_advance_40 ff_TC_25 ?_
        refine jj_callV (ci := 1) [] [.ref (g (40 + c))] 0 0 dd_TC_advance_43 cs_TC_74 ci_TC_74 (hS.1.1 _ _ rfl) ⟨by decide, rfl⟩ rfl (Nat.le_of_ble_eq_true rfl) ⟨(Nat.le_of_ble_eq_true rfl), (Nat.le_of_ble_eq_true rfl)⟩ ⟨(Nat.le_of_ble_eq_true rfl), (Nat.le_of_ble_eq_true rfl)⟩ rfl (ks_Or_handOut hS (fun M hS => ?_))
        refine jj_pS hS dd_TC_advance_46 ⟨ff_TC_227, rfl⟩ (ok_x hc) (fun _ => rfl) ⟨rfl, rfl⟩ (fun M hS => ?_)
        refine jj_iconst (v := 2) dd_TC_advance_49 rfl ?_
        refine jj_iret dd_TC_advance_50 rfl rfl ?_
        rw [if_neg h4, if_pos h22, if_pos h35] at hQ
        exact hQ _ hS
    · skip
      refine jj_aload_n 0 dd_TC_advance_25 rfl ?_
      refine jj_aload_n 1 dd_TC_advance_26 rfl ?_
      rw [if_neg h4, if_neg h22] at hQ
      refine jj_callV (ci := 0) [.ref (g (40 + c))] [] 0 0 dd_TC_advance_27 cs_TC_224 ci_TC_224 (hS.1.1 _ _ rfl) ⟨by decide, rfl⟩ rfl (Nat.le_of_ble_eq_true rfl) ⟨(Nat.le_of_ble_eq_true rfl), (Nat.le_of_ble_eq_true rfl)⟩ ⟨(Nat.le_of_ble_eq_true rfl), (Nat.le_of_ble_eq_true rfl)⟩ rfl (ct_TC_prewrite hS hc hci (pw1_mono (le_L _) hci (fun r S1 hQ M hS => ?_) hQ))
      refine jj_iret dd_TC_advance_30 rfl rfl ?_
      exact hQ _ hS
  · skip
    refine jj_aload_n 1 dd_TC_advance_7 rfl ?_
    refine jj_callV (ci := 6) [] [] 0 0 dd_TC_advance_8 cs_TC_154 ci_TC_154 (hS.1.1 _ _ (ok_x hc)) ⟨by decide, rfl⟩ rfl (Nat.le_of_ble_eq_true rfl) ⟨(Nat.le_of_ble_eq_true rfl), (Nat.le_of_ble_eq_true rfl)⟩ ⟨(Nat.le_of_ble_eq_true rfl), (Nat.le_of_ble_eq_true rfl)⟩ rfl (ks_Tr_end hS hc (fun M hS => ?_))
    refine jj_bipush (v := 7) dd_TC_advance_11 rfl ?_
    refine jj_iret dd_TC_advance_13 rfl rfl ?_
    rw [if_pos h4] at hQ
    exact hQ _ hS
