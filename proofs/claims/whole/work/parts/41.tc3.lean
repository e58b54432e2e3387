def xv_ (Q : mm_O → mm_M → Prop) : Nat → mm_M → Prop
  | 0, M => Q (.inl none) M
  | e + 1, M => ∀ a, mm_k M a = none → Q (.inr (a, e)) M
theorem ks_Tr_erasesB {l : Launch} {g : Nat → Nat} {M : mm_M} {S : ss_} {Q : Option Value → mm_M → Prop} {c i : Nat} (hS : rp_ g M S) (hc : c < 4) (h1 : bt_ (S.1 (40 + c) 7) i = 1 → Q (some (.int 1)) M) (h0 : ¬ bt_ (S.1 (40 + c) 7) i = 1 → Q (some (.int 0)) M) : ct_ l yy_Tr_erases bb_Tr_erases 2 (some .boolean) 0 0 0 [.ref (g (40 + c)), .int (nI i)] M Q := by
  refine ks_Tr_erases hS hc ?_
  by_cases e : bt_ (S.1 (40 + c) 7) i = 1
  · rw [if_pos e]; exact h1 e
  · rw [if_neg e]; exact h0 e
theorem ks_Tr_writesB {l : Launch} {g : Nat → Nat} {M : mm_M} {S : ss_} {Q : Option Value → mm_M → Prop} {c i : Nat} (hS : rp_ g M S) (hc : c < 4) (h1 : bt_ (S.1 (40 + c) 6) i = 1 → Q (some (.int 1)) M) (h0 : ¬ bt_ (S.1 (40 + c) 6) i = 1 → Q (some (.int 0)) M) : ct_ l yy_Tr_writes bb_Tr_writes 2 (some .boolean) 0 0 0 [.ref (g (40 + c)), .int (nI i)] M Q := by
  refine ks_Tr_writes hS hc ?_
  by_cases e : bt_ (S.1 (40 + c) 6) i = 1
  · rw [if_pos e]; exact h1 e
  · rw [if_neg e]; exact h0 e
def gtv_ (S : ss_) (K : Nat → Int32 → ss_ → Prop) : Option vv_ → Prop
  | none => K 3 0 S
  | some v => if vv_g v 2 = 2 then K 3 0 S else K 0 (vv_g v 3) S
def gtf_ (S : ss_) (c i : Nat) (K : Nat → Int32 → ss_ → Prop) : Prop := gtv_ S K (lwb_ (S.1 (40 + c) 4) (S.2.2 i))
def gt1_ (S : ss_) (c i : Nat) (K : Nat → Int32 → ss_ → Prop) : Prop :=
  if bt_ (S.1 (40 + c) 6) i = 1 then (if bt_ (S.1 (40 + c) 7) i = 1 then K 3 0 S else K 0 (S.1 (50 + c) i) S)
  else if S.1 (10 + i / 4) 0 = 0 then K 2 0 S
  else if S.1 (10 + i / 4) 1 ≤ S.1 (40 + c) 4 then
    (if lt_ (S.2.1 i) (S.1 (40 + c) 4) = 0 then gtf_ S c i K else cu_ S i (fun r S1 => if r = -2 then K 2 0 S1 else gtf_ S1 c i K))
  else K 4 0 S
def gtC_ (S : ss_) (c i : Nat) (K : Nat → Int32 → ss_ → Prop) : Prop := if S.1 (40 + c) 2 = 0 then K 2 0 S else if S.1 (40 + c) 3 = 0 then gt1_ S c i K else K 2 0 S
def seC_ (S : ss_) (c i : Nat) (y : Int32) (K : Nat → ss_ → Prop) : Prop := if S.1 (40 + c) 2 = 0 then K 2 S else if S.1 (40 + c) 3 = 0 then K 0 (uf_ (uf_ (uf_ S.1 (40 + c) 6 (S.1 (40 + c) 6 ||| b1_ i)) (40 + c) 7 (S.1 (40 + c) 7 &&& (b1_ i ^^^ (-1)))) (50 + c) i y, S.2) else K 2 S
def erC_ (S : ss_) (c i : Nat) (K : Nat → ss_ → Prop) : Prop := if S.1 (40 + c) 2 = 0 then K 2 S else if S.1 (40 + c) 3 = 0 then K 0 (uf_ (uf_ (uf_ S.1 (40 + c) 6 (S.1 (40 + c) 6 ||| b1_ i)) (40 + c) 7 (S.1 (40 + c) 7 ||| b1_ i)) (50 + c) i 0, S.2) else K 2 S
def beC_ (S : ss_) (c : Nat) (K : Nat → Int32 → ss_ → Prop) : Prop := if S.1 (40 + c) 2 = 0 then K 0 ((uf_ (uf_ (hoC_ S.1) (40 + c) 2 1) (40 + c) 4 (S.1 1 0)) (40 + c) 4) (uf_ (uf_ (hoC_ S.1) (40 + c) 2 1) (40 + c) 4 (S.1 1 0), S.2) else K 2 0 S
def ceC_ (S : ss_) (i : Nat) (K : Nat → Int32 → ss_ → Prop) : Prop := if S.1 (10 + i / 4) 0 = 0 then K 2 0 S else cu_ S i (fun r S1 => if r = -2 then K 2 0 S1 else K 0 r S1)
def stC_ (S : ss_) (c : Nat) (K : Nat → Int32 → ss_ → Prop) : Prop := if S.1 (40 + c) 2 = 0 then K 3 0 S else avC_ (uf_ S.1 (40 + c) 3 1, S.2) c (fun r S1 => if r = -2 then K 2 0 S1 else K 0 r S1)
set_option maxRecDepth 20000 in
theorem cx_Tr_ownValue {l : Launch} {M : mm_M} {Q : mm_O → mm_M → Prop} (hfl : l.flags = pinnedFlags ++ [noTraceFlag]) {g : Nat → Nat} {S : ss_} (hS : rp_ g M S) {c i : Nat} (hc : c < 4) (hi : i < 12) (h1 : bt_ (S.1 (40 + c) 7) i = 1 → ∀ a, mm_k M a = none → Q (.inr (a, 2)) M) (h0 : ¬ bt_ (S.1 (40 + c) 7) i = 1 → Q (.inl (some (.int (S.1 (50 + c) i)))) M) : cx_ l yy_Tr_ownValue bb_Tr_ownValue 2 (some .int) 6 1 6 [.ref (g (40 + c)), .int (nI i)] M Q := by
  refine cx_of (by decide) (Nat.le_of_ble_eq_true rfl) (fun G A => ?_)
  refine jj_aload_n 0 dd_Tr_ownValue_0 rfl ?_
  refine jj_iload_n 1 dd_Tr_ownValue_1 rfl ?_
  refine jj_callV (ci := 6) [_] [] 1 6 dd_Tr_ownValue_2 cs_Tr_47 ci_Tr_47 (hS.1.1 _ _ (ok_x hc)) ⟨by decide, rfl⟩ rfl (Nat.le_of_ble_eq_true rfl) ⟨(Nat.le_of_ble_eq_true rfl), (Nat.le_of_ble_eq_true rfl)⟩ ⟨(Nat.le_of_ble_eq_true rfl), (Nat.le_of_ble_eq_true rfl)⟩ rfl (ks_Tr_erasesB hS hc (fun he => ?_) (fun he => ?_))
  · skip
    refine jj_if_eq (tgt := 18) dd_Tr_ownValue_5 (by decide) (fun h => absurd h (by decide)) (fun _ => ?_)
    refine jj_throwN hfl dd_Tr_ownValue_8 dd_Tr_ownValue_11 dd_Tr_ownValue_12 dd_Tr_ownValue_14 dd_Tr_ownValue_17 kd_Tr_ownValue to_Tr_53 ⟨(Nat.le_of_ble_eq_true rfl), (Nat.le_of_ble_eq_true rfl)⟩ (Nat.le_of_ble_eq_true rfl) (Nat.le_of_ble_eq_true rfl) (fun a ha => ?_)
    exact h1 he a ha
  · skip
    refine jj_if_eq (tgt := 18) dd_Tr_ownValue_5 (by decide) (fun _ => ?_) (fun h => absurd h (by decide))
    refine jj_aload_n 0 dd_Tr_ownValue_18 rfl ?_
    refine jj_vals hS dd_Tr_ownValue_19 ff_Tr_43 hc ?_
    refine jj_iload_n 1 dd_Tr_ownValue_22 rfl ?_
    refine jj_aS hS dd_Tr_ownValue_23 (ok_v hc) (vp_in_nI (n := i) (by omega) (by decide)) (i) (nI_clamp (n := i) (by omega)) ?_
    refine jj_iret dd_Tr_ownValue_24 rfl rfl ?_
    exact h0 he
set_option maxRecDepth 20000 in
theorem cx_TC_readingTransaction {l : Launch} {M : mm_M} {Q : mm_O → mm_M → Prop} (hfl : l.flags = pinnedFlags ++ [noTraceFlag]) {g : Nat → Nat} {S : ss_} (hS : rp_ g M S) {c i : Nat} (hc : c < 4) (hi : i < 12) (h0 : (S.1 (40 + c) 2 = 0 ∨ ¬ S.1 (40 + c) 3 = 0) → ∀ a, mm_k M a = none → Q (.inr (a, 1)) M) (h1 : ¬ S.1 (40 + c) 2 = 0 → S.1 (40 + c) 3 = 0 → Q (.inl (some (.ref (g (40 + c))))) M) : cx_ l yy_TC_readingTransaction bb_TC_readingTransaction 4 (some (.object "TabletCommits$Transaction")) 6 1 6 [.ref (g 0), .int (nI c), .int (nI i)] M Q := by
  refine cx_of (by decide) (Nat.le_of_ble_eq_true rfl) (fun G A => ?_)
  refine jj_iload_n 1 dd_TC_readingTransaction_0 rfl ?_
  refine jj_callS [_] [] 1 6 dd_TC_readingTransaction_1 cs_TC_54 ci_TC_54 rfl (Nat.le_of_ble_eq_true rfl) ⟨(Nat.le_of_ble_eq_true rfl), (Nat.le_of_ble_eq_true rfl)⟩ ⟨(Nat.le_of_ble_eq_true rfl), (Nat.le_of_ble_eq_true rfl)⟩ rfl (ct_TC_isClient (fun hb => ?_) (fun hb => ?_))
  · skip
    exact absurd (vp_in_nI (n := c) (by omega) (by decide)) hb
  · skip
    refine jj_if_eq (tgt := 14) dd_TC_readingTransaction_4 (by decide) (fun h => absurd h (by decide)) (fun _ => ?_)
    refine jj_iload_n 2 dd_TC_readingTransaction_7 rfl ?_
    refine jj_callS [_] [] 1 6 dd_TC_readingTransaction_8 cs_TC_157 ci_TC_157 rfl (Nat.le_of_ble_eq_true rfl) ⟨(Nat.le_of_ble_eq_true rfl), (Nat.le_of_ble_eq_true rfl)⟩ ⟨(Nat.le_of_ble_eq_true rfl), (Nat.le_of_ble_eq_true rfl)⟩ rfl (ct_TC_isCell (fun hb => ?_) (fun hb => ?_))
    · skip
      exact absurd (vp_in_nI (n := i) (by omega) (by decide)) hb
    · skip
      refine jj_if_ne (tgt := 24) dd_TC_readingTransaction_11 (by decide) (fun _ => ?_) (fun h => absurd h (by decide))
      refine jj_aload_n 0 dd_TC_readingTransaction_24 rfl ?_
      refine jj_tc4 hS dd_TC_readingTransaction_25 ff_TC_47 ?_
      refine jj_iload_n 1 dd_TC_readingTransaction_28 rfl ?_
      refine jj_at4 (c) hS dd_TC_readingTransaction_29 (by omega) rfl ?_
      refine jj_astore_n (lv' := [(3, .ref (g (40 + c))), (0, .ref (g 0)), (1, .int (nI (c))), (2, .int (nI (i)))]) dd_TC_readingTransaction_30 (Nat.le_of_ble_eq_true rfl) rfl ?_
      refine jj_aload_n 0 dd_TC_readingTransaction_31 rfl ?_
      refine jj_gS hS dd_TC_readingTransaction_32 ff_TC_65 (ok_x (by omega)) (fun _ => rfl) ?_
      refine jj_if_eq (tgt := 45) dd_TC_readingTransaction_35 (by decide) (fun h35 => ?_) (fun h35 => ?_)
      · skip
        refine jj_throw hfl dd_TC_readingTransaction_45 dd_TC_readingTransaction_48 dd_TC_readingTransaction_49 dd_TC_readingTransaction_51 dd_TC_readingTransaction_54 kd_TC_readingTransaction to_TC_216 ⟨(Nat.le_of_ble_eq_true rfl), (Nat.le_of_ble_eq_true rfl)⟩ (Nat.le_of_ble_eq_true rfl) (Nat.le_of_ble_eq_true rfl) (fun a ha => ?_)
        exact h0 (by first | exact Or.inl h35 | exact Or.inr h42) a ha
      · skip
        refine jj_aload_n 0 dd_TC_readingTransaction_38 rfl ?_
        refine jj_gS hS dd_TC_readingTransaction_39 ff_TC_147 (ok_x (by omega)) (fun _ => rfl) ?_
        refine jj_if_eq (tgt := 55) dd_TC_readingTransaction_42 (by decide) (fun h42 => ?_) (fun h42 => ?_)
        · skip
          refine jj_aload_n 0 dd_TC_readingTransaction_55 rfl ?_
          refine jj_aret dd_TC_readingTransaction_56 rfl (Or.inl ⟨_, rfl⟩) (Or.inr ⟨_, rfl⟩) ?_
          exact h1 h35 h42
        · skip
          refine jj_throw hfl dd_TC_readingTransaction_45 dd_TC_readingTransaction_48 dd_TC_readingTransaction_49 dd_TC_readingTransaction_51 dd_TC_readingTransaction_54 kd_TC_readingTransaction to_TC_216 ⟨(Nat.le_of_ble_eq_true rfl), (Nat.le_of_ble_eq_true rfl)⟩ (Nat.le_of_ble_eq_true rfl) (Nat.le_of_ble_eq_true rfl) (fun a ha => ?_)
          exact h0 (by first | exact Or.inl h35 | exact Or.inr h42) a ha
set_option maxRecDepth 20000 in
theorem cx_TC_readingTransaction0 {l : Launch} {M : mm_M} {Q : mm_O → mm_M → Prop} (hfl : l.flags = pinnedFlags ++ [noTraceFlag]) {g : Nat → Nat} {S : ss_} (hS : rp_ g M S) {x y : Int32} (hx : ¬ vp_in x 4 ∨ ¬ vp_in y 12) (hQ : ∀ a, mm_k M a = none → Q (.inr (a, 0)) M) : cx_ l yy_TC_readingTransaction bb_TC_readingTransaction 4 (some (.object "TabletCommits$Transaction")) 6 1 6 [.ref (g 0), .int x, .int y] M Q := by
  refine cx_of (by decide) (Nat.le_of_ble_eq_true rfl) (fun G A => ?_)
  refine jj_iload_n 1 dd_TC_readingTransaction_0 rfl ?_
  refine jj_callS [_] [] 1 6 dd_TC_readingTransaction_1 cs_TC_54 ci_TC_54 rfl (Nat.le_of_ble_eq_true rfl) ⟨(Nat.le_of_ble_eq_true rfl), (Nat.le_of_ble_eq_true rfl)⟩ ⟨(Nat.le_of_ble_eq_true rfl), (Nat.le_of_ble_eq_true rfl)⟩ rfl (ct_TC_isClient (fun hb => ?_) (fun hb => ?_))
  · skip
    refine jj_if_eq (tgt := 14) dd_TC_readingTransaction_4 (by decide) (fun _ => ?_) (fun h => absurd h (by decide))
    refine jj_throw hfl dd_TC_readingTransaction_14 dd_TC_readingTransaction_17 dd_TC_readingTransaction_18 dd_TC_readingTransaction_20 dd_TC_readingTransaction_23 kd_TC_readingTransaction to_TC_214 ⟨(Nat.le_of_ble_eq_true rfl), (Nat.le_of_ble_eq_true rfl)⟩ (Nat.le_of_ble_eq_true rfl) (Nat.le_of_ble_eq_true rfl) (fun a ha => ?_)
    exact hQ a ha
  · skip
    have hx2 := hx.resolve_left (fun h => h hb)
    refine jj_if_eq (tgt := 14) dd_TC_readingTransaction_4 (by decide) (fun h => absurd h (by decide)) (fun _ => ?_)
    refine jj_iload_n 2 dd_TC_readingTransaction_7 rfl ?_
    refine jj_callS [_] [] 1 6 dd_TC_readingTransaction_8 cs_TC_157 ci_TC_157 rfl (Nat.le_of_ble_eq_true rfl) ⟨(Nat.le_of_ble_eq_true rfl), (Nat.le_of_ble_eq_true rfl)⟩ ⟨(Nat.le_of_ble_eq_true rfl), (Nat.le_of_ble_eq_true rfl)⟩ rfl (ct_TC_isCell (fun hb => ?_) (fun hb => ?_))
    · skip
      refine jj_if_ne (tgt := 24) dd_TC_readingTransaction_11 (by decide) (fun h => absurd h (by decide)) (fun _ => ?_)
      refine jj_throw hfl dd_TC_readingTransaction_14 dd_TC_readingTransaction_17 dd_TC_readingTransaction_18 dd_TC_readingTransaction_20 dd_TC_readingTransaction_23 kd_TC_readingTransaction to_TC_214 ⟨(Nat.le_of_ble_eq_true rfl), (Nat.le_of_ble_eq_true rfl)⟩ (Nat.le_of_ble_eq_true rfl) (Nat.le_of_ble_eq_true rfl) (fun a ha => ?_)
      exact hQ a ha
    · skip
      exact absurd hb hx2
set_option maxRecDepth 20000 in
theorem cx_TC_begin {l : Launch} {M : mm_M} {Q : mm_O → mm_M → Prop} (hfl : l.flags = pinnedFlags ++ [noTraceFlag]) {g : Nat → Nat} {S : ss_} (hS : rp_ g M S) {c : Nat} (hc : c < 4) (hQ : beC_ S c (fun e r S' => ∀ M', rp_ g M' S' → xo_ Q e r M')) : cx_ l yy_TC_begin bb_TC_begin 3 (some .int) 6 1 6 [.ref (g 0), .int (nI c)] M Q := by
  refine cx_of (by decide) (Nat.le_of_ble_eq_true rfl) (fun G A => ?_)
  unfold beC_ at hQ
  refine jj_iload_n 1 dd_TC_begin_0 rfl ?_
  refine jj_callS [_] [] 1 6 dd_TC_begin_1 cs_TC_54 ci_TC_54 rfl (Nat.le_of_ble_eq_true rfl) ⟨(Nat.le_of_ble_eq_true rfl), (Nat.le_of_ble_eq_true rfl)⟩ ⟨(Nat.le_of_ble_eq_true rfl), (Nat.le_of_ble_eq_true rfl)⟩ rfl (ct_TC_isClient (fun hb => ?_) (fun hb => ?_))
  · skip
    exact absurd (vp_in_nI (n := c) (by omega) (by decide)) hb
  · skip
    refine jj_if_ne (tgt := 17) dd_TC_begin_4 (by decide) (fun _ => ?_) (fun h => absurd h (by decide))
    refine jj_aload_n 0 dd_TC_begin_17 rfl ?_
    refine jj_tc4 hS dd_TC_begin_18 ff_TC_47 ?_
    refine jj_iload_n 1 dd_TC_begin_21 rfl ?_
    refine jj_at4 (c) hS dd_TC_begin_22 (by omega) rfl ?_
    refine jj_astore_n (lv' := [(2, .ref (g (40 + c))), (0, .ref (g 0)), (1, .int (nI (c)))]) dd_TC_begin_23 (Nat.le_of_ble_eq_true rfl) rfl ?_
    refine jj_aload_n 0 dd_TC_begin_24 rfl ?_
    refine jj_gS hS dd_TC_begin_25 ff_TC_65 (ok_x (by omega)) (fun _ => rfl) ?_
    refine jj_if_eq (tgt := 41) dd_TC_begin_28 (by decide) (fun h28 => ?_) (fun h28 => ?_)
    · skip
      refine jj_aload_n 0 dd_TC_begin_41 rfl ?_
      refine jj_aload_n 1 dd_TC_begin_42 rfl ?_
      refine jj_tc1 hS dd_TC_begin_43 ff_TC_25 ?_
      refine jj_callV (ci := 1) [] [.ref (g (40 + c))] 1 6 dd_TC_begin_46 cs_TC_74 ci_TC_74 (hS.1.1 _ _ rfl) ⟨by decide, rfl⟩ rfl (Nat.le_of_ble_eq_true rfl) ⟨(Nat.le_of_ble_eq_true rfl), (Nat.le_of_ble_eq_true rfl)⟩ ⟨(Nat.le_of_ble_eq_true rfl), (Nat.le_of_ble_eq_true rfl)⟩ rfl (ks_Or_handOut hS (fun M hS => ?_))
      refine jj_callV (ci := 6) [_] [] 1 6 dd_TC_begin_49 cs_TC_78 ci_TC_78 (hS.1.1 _ _ (ok_x (by omega))) ⟨by decide, rfl⟩ rfl (Nat.le_of_ble_eq_true rfl) ⟨(Nat.le_of_ble_eq_true rfl), (Nat.le_of_ble_eq_true rfl)⟩ ⟨(Nat.le_of_ble_eq_true rfl), (Nat.le_of_ble_eq_true rfl)⟩ rfl (ks_Tr_startAt hS hc (fun M hS => ?_))
      refine jj_aload_n 0 dd_TC_begin_52 rfl ?_
      refine jj_gS hS dd_TC_begin_53 ff_TC_81 (ok_x (by omega)) (fun _ => rfl) ?_
      refine jj_iret dd_TC_begin_56 rfl rfl ?_
      rw [if_pos h28] at hQ
      exact hQ _ hS
    · skip
      refine jj_throw hfl dd_TC_begin_31 dd_TC_begin_34 dd_TC_begin_35 dd_TC_begin_37 dd_TC_begin_40 kd_TC_begin to_TC_71 ⟨(Nat.le_of_ble_eq_true rfl), (Nat.le_of_ble_eq_true rfl)⟩ (Nat.le_of_ble_eq_true rfl) (Nat.le_of_ble_eq_true rfl) (fun a ha => ?_)
      rw [if_neg h28] at hQ
      exact hQ _ hS a ha
set_option maxRecDepth 20000 in
theorem cx_TC_begin0 {l : Launch} {M : mm_M} {Q : mm_O → mm_M → Prop} (hfl : l.flags = pinnedFlags ++ [noTraceFlag]) {g : Nat → Nat} {S : ss_} (hS : rp_ g M S) {x : Int32} (hx : ¬ vp_in x 4) (hQ : ∀ a, mm_k M a = none → Q (.inr (a, 0)) M) : cx_ l yy_TC_begin bb_TC_begin 3 (some .int) 6 1 6 [.ref (g 0), .int x] M Q := by
  refine cx_of (by decide) (Nat.le_of_ble_eq_true rfl) (fun G A => ?_)
  refine jj_iload_n 1 dd_TC_begin_0 rfl ?_
  refine jj_callS [_] [] 1 6 dd_TC_begin_1 cs_TC_54 ci_TC_54 rfl (Nat.le_of_ble_eq_true rfl) ⟨(Nat.le_of_ble_eq_true rfl), (Nat.le_of_ble_eq_true rfl)⟩ ⟨(Nat.le_of_ble_eq_true rfl), (Nat.le_of_ble_eq_true rfl)⟩ rfl (ct_TC_isClient (fun hb => ?_) (fun hb => ?_))
  · skip
    refine jj_if_ne (tgt := 17) dd_TC_begin_4 (by decide) (fun h => absurd h (by decide)) (fun _ => ?_)
    refine jj_throw hfl dd_TC_begin_7 dd_TC_begin_10 dd_TC_begin_11 dd_TC_begin_13 dd_TC_begin_16 kd_TC_begin to_TC_60 ⟨(Nat.le_of_ble_eq_true rfl), (Nat.le_of_ble_eq_true rfl)⟩ (Nat.le_of_ble_eq_true rfl) (Nat.le_of_ble_eq_true rfl) (fun a ha => ?_)
    exact hQ a ha
  · skip
    exact absurd hb hx
set_option maxRecDepth 20000 in
theorem cx_TC_clear {l : Launch} {M : mm_M} {Q : mm_O → mm_M → Prop} (hfl : l.flags = pinnedFlags ++ [noTraceFlag]) {g : Nat → Nat} {S : ss_} (hS : rp_ g M S) {i : Nat} (hi : i < 12) (hci : ci_ S) (hQ : ceC_ S i (fun e r S' => ∀ M', rp_ g M' S' → xo_ Q e r M')) : cx_ l yy_TC_clear bb_TC_clear 3 (some .int) 6 3 16 [.ref (g 0), .int (nI i)] M Q := by
  refine cx_of (by decide) (Nat.le_of_ble_eq_true rfl) (fun G A => ?_)
  unfold ceC_ at hQ
  refine jj_iload_n 1 dd_TC_clear_0 rfl ?_
  refine jj_callS [_] [] 3 16 dd_TC_clear_1 cs_TC_157 ci_TC_157 rfl (Nat.le_of_ble_eq_true rfl) ⟨(Nat.le_of_ble_eq_true rfl), (Nat.le_of_ble_eq_true rfl)⟩ ⟨(Nat.le_of_ble_eq_true rfl), (Nat.le_of_ble_eq_true rfl)⟩ rfl (ct_TC_isCell (fun hb => ?_) (fun hb => ?_))
  · skip
    exact absurd (vp_in_nI (n := i) (by omega) (by decide)) hb
  · skip
    refine jj_if_ne (tgt := 17) dd_TC_clear_4 (by decide) (fun _ => ?_) (fun h => absurd h (by decide))
    refine jj_aload_n 0 dd_TC_clear_17 rfl ?_
    refine jj_tc3 hS dd_TC_clear_18 ff_TC_38 ?_
    refine jj_iload_n 1 dd_TC_clear_21 rfl ?_
    refine jj_at3 (i) hS dd_TC_clear_22 (by omega) rfl ?_
    refine jj_home hS dd_TC_clear_23 ff_TC_95 (by omega) ?_
    refine jj_gS hS dd_TC_clear_26 ff_TC_99 (ok_t (by omega)) (fun _ => rfl) ?_
    refine jj_if_ne (tgt := 42) dd_TC_clear_29 (by decide) (fun h29 => ?_) (fun h29 => ?_)
    · skip
      refine jj_aload_n 0 dd_TC_clear_42 rfl ?_
      refine jj_aload_n 0 dd_TC_clear_43 rfl ?_
      refine jj_tc3 hS dd_TC_clear_44 ff_TC_38 ?_
      refine jj_iload_n 1 dd_TC_clear_47 rfl ?_
      refine jj_at3 (i) hS dd_TC_clear_48 (by omega) rfl ?_
      rw [if_neg h29] at hQ
      refine jj_callV (ci := 0) [.ref (g (20 + i))] [] 1 6 dd_TC_clear_49 cs_TC_115 ci_TC_115 (hS.1.1 _ _ rfl) ⟨by decide, rfl⟩ rfl (Nat.le_of_ble_eq_true rfl) ⟨(Nat.le_of_ble_eq_true rfl), (Nat.le_of_ble_eq_true rfl)⟩ ⟨(Nat.le_of_ble_eq_true rfl), (Nat.le_of_ble_eq_true rfl)⟩ rfl (ct_TC_clearUp hS hi hci (cu_mono hi hci (fun r S1 _ hQ M hS => ?_) hQ))
      refine jj_istore_n (lv' := [(2, .int _), (0, .ref (g 0)), (1, .int (nI (i)))]) dd_TC_clear_52 (Nat.le_of_ble_eq_true rfl) rfl ?_
      refine jj_iload_n 0 dd_TC_clear_53 rfl ?_
      refine jj_bipush (v := -2) dd_TC_clear_54 rfl ?_
      refine jj_icmp_ne (tgt := 69) dd_TC_clear_56 (by decide) (fun h56 => ?_) (fun h56 => ?_)
      · skip
        refine jj_iload_n 0 dd_TC_clear_69 rfl ?_
        refine jj_iret dd_TC_clear_70 rfl rfl ?_
        rw [if_neg h56] at hQ
        exact hQ _ hS
      · skip
        refine jj_throw hfl dd_TC_clear_59 dd_TC_clear_62 dd_TC_clear_63 dd_TC_clear_65 dd_TC_clear_68 kd_TC_clear to_TC_119 ⟨(Nat.le_of_ble_eq_true rfl), (Nat.le_of_ble_eq_true rfl)⟩ (Nat.le_of_ble_eq_true rfl) (Nat.le_of_ble_eq_true rfl) (fun a ha => ?_)
        rw [if_pos h56] at hQ
        exact hQ _ hS a ha
    · skip
      refine jj_throw hfl dd_TC_clear_32 dd_TC_clear_35 dd_TC_clear_36 dd_TC_clear_38 dd_TC_clear_41 kd_TC_clear to_TC_102 ⟨(Nat.le_of_ble_eq_true rfl), (Nat.le_of_ble_eq_true rfl)⟩ (Nat.le_of_ble_eq_true rfl) (Nat.le_of_ble_eq_true rfl) (fun a ha => ?_)
      rw [if_pos h29] at hQ
      exact hQ _ hS a ha
set_option maxRecDepth 20000 in
theorem cx_TC_clear0 {l : Launch} {M : mm_M} {Q : mm_O → mm_M → Prop} (hfl : l.flags = pinnedFlags ++ [noTraceFlag]) {g : Nat → Nat} {S : ss_} (hS : rp_ g M S) {x : Int32} (hx : ¬ vp_in x 12) (hQ : ∀ a, mm_k M a = none → Q (.inr (a, 0)) M) : cx_ l yy_TC_clear bb_TC_clear 3 (some .int) 6 3 16 [.ref (g 0), .int x] M Q := by
  refine cx_of (by decide) (Nat.le_of_ble_eq_true rfl) (fun G A => ?_)
  refine jj_iload_n 1 dd_TC_clear_0 rfl ?_
  refine jj_callS [_] [] 3 16 dd_TC_clear_1 cs_TC_157 ci_TC_157 rfl (Nat.le_of_ble_eq_true rfl) ⟨(Nat.le_of_ble_eq_true rfl), (Nat.le_of_ble_eq_true rfl)⟩ ⟨(Nat.le_of_ble_eq_true rfl), (Nat.le_of_ble_eq_true rfl)⟩ rfl (ct_TC_isCell (fun hb => ?_) (fun hb => ?_))
  · skip
    refine jj_if_ne (tgt := 17) dd_TC_clear_4 (by decide) (fun h => absurd h (by decide)) (fun _ => ?_)
    refine jj_throw hfl dd_TC_clear_7 dd_TC_clear_10 dd_TC_clear_11 dd_TC_clear_13 dd_TC_clear_16 kd_TC_clear to_TC_160 ⟨(Nat.le_of_ble_eq_true rfl), (Nat.le_of_ble_eq_true rfl)⟩ (Nat.le_of_ble_eq_true rfl) (Nat.le_of_ble_eq_true rfl) (fun a ha => ?_)
    exact hQ a ha
  · skip
    exact absurd hb hx
set_option maxRecDepth 20000 in
theorem cx_TC_step {l : Launch} {M : mm_M} {Q : mm_O → mm_M → Prop} (hfl : l.flags = pinnedFlags ++ [noTraceFlag]) {g : Nat → Nat} {S : ss_} (hS : rp_ g M S) {c : Nat} (hc : c < 4) (hci : ci_ S) (hQ : stC_ S c (fun e r S' => ∀ M', rp_ g M' S' → xo_ Q e r M')) : cx_ l yy_TC_step bb_TC_step 4 (some .int) 7 4 22 [.ref (g 0), .int (nI c)] M Q := by
  refine cx_of (by decide) (Nat.le_of_ble_eq_true rfl) (fun G A => ?_)
  unfold stC_ at hQ
  refine jj_iload_n 1 dd_TC_step_0 rfl ?_
  refine jj_callS [_] [] 4 22 dd_TC_step_1 cs_TC_54 ci_TC_54 rfl (Nat.le_of_ble_eq_true rfl) ⟨(Nat.le_of_ble_eq_true rfl), (Nat.le_of_ble_eq_true rfl)⟩ ⟨(Nat.le_of_ble_eq_true rfl), (Nat.le_of_ble_eq_true rfl)⟩ rfl (ct_TC_isClient (fun hb => ?_) (fun hb => ?_))
  · skip
    exact absurd (vp_in_nI (n := c) (by omega) (by decide)) hb
  · skip
    refine jj_if_ne (tgt := 17) dd_TC_step_4 (by decide) (fun _ => ?_) (fun h => absurd h (by decide))
    refine jj_aload_n 0 dd_TC_step_17 rfl ?_
    refine jj_tc4 hS dd_TC_step_18 ff_TC_47 ?_
    refine jj_iload_n 1 dd_TC_step_21 rfl ?_
    refine jj_at4 (c) hS dd_TC_step_22 (by omega) rfl ?_
    refine jj_astore_n (lv' := [(2, .ref (g (40 + c))), (0, .ref (g 0)), (1, .int (nI (c)))]) dd_TC_step_23 (Nat.le_of_ble_eq_true rfl) rfl ?_
    refine jj_aload_n 0 dd_TC_step_24 rfl ?_
    refine jj_gS hS dd_TC_step_25 ff_TC_65 (ok_x (by omega)) (fun _ => rfl) ?_
    refine jj_if_ne (tgt := 41) dd_TC_step_28 (by decide) (fun h28 => ?_) (fun h28 => ?_)
    · skip
      refine jj_aload_n 0 dd_TC_step_41 rfl ?_
      refine jj_iconst (v := 1) dd_TC_step_42 rfl ?_
      refine jj_pS hS dd_TC_step_43 ⟨ff_TC_147, rfl⟩ (ok_x (by omega)) (fun _ => rfl) ⟨rfl, rfl⟩ (fun M hS => ?_)
      refine jj_aload_n 1 dd_TC_step_46 rfl ?_
      refine jj_aload_n 0 dd_TC_step_47 rfl ?_
      rw [if_neg h28] at hQ
      refine jj_callV (ci := 0) [.ref (g (40 + c))] [] 1 6 dd_TC_step_48 cs_TC_150 ci_TC_150 (hS.1.1 _ _ rfl) ⟨by decide, rfl⟩ rfl (Nat.le_of_ble_eq_true rfl) ⟨(Nat.le_of_ble_eq_true rfl), (Nat.le_of_ble_eq_true rfl)⟩ ⟨(Nat.le_of_ble_eq_true rfl), (Nat.le_of_ble_eq_true rfl)⟩ rfl (ct_TC_advance hS hc (ci_uf hci (by omega)) (avC_mono (ci_uf hci (by omega)) (fun r S1 hQ M hS => ?_) hQ))
      refine jj_istore_n (lv' := [(3, .int _), (2, .ref (g (40 + c))), (0, .ref (g 0)), (1, .int (nI (c)))]) dd_TC_step_51 (Nat.le_of_ble_eq_true rfl) rfl ?_
      refine jj_iload_n 0 dd_TC_step_52 rfl ?_
      refine jj_bipush (v := -2) dd_TC_step_53 rfl ?_
      refine jj_icmp_ne (tgt := 68) dd_TC_step_55 (by decide) (fun h55 => ?_) (fun h55 => ?_)
      · skip
        refine jj_iload_n 0 dd_TC_step_68 rfl ?_
        refine jj_iret dd_TC_step_69 rfl rfl ?_
        rw [if_neg h55] at hQ
        exact hQ _ hS
      · skip
        refine jj_throw hfl dd_TC_step_58 dd_TC_step_61 dd_TC_step_62 dd_TC_step_64 dd_TC_step_67 kd_TC_step to_TC_119 ⟨(Nat.le_of_ble_eq_true rfl), (Nat.le_of_ble_eq_true rfl)⟩ (Nat.le_of_ble_eq_true rfl) (Nat.le_of_ble_eq_true rfl) (fun a ha => ?_)
        rw [if_pos h55] at hQ
        exact hQ _ hS a ha
    · skip
      refine jj_throwN hfl dd_TC_step_31 dd_TC_step_34 dd_TC_step_35 dd_TC_step_37 dd_TC_step_40 kd_TC_step to_TC_145 ⟨(Nat.le_of_ble_eq_true rfl), (Nat.le_of_ble_eq_true rfl)⟩ (Nat.le_of_ble_eq_true rfl) (Nat.le_of_ble_eq_true rfl) (fun a ha => ?_)
      rw [if_pos h28] at hQ
      exact hQ _ hS a ha
set_option maxRecDepth 20000 in
theorem cx_TC_step0 {l : Launch} {M : mm_M} {Q : mm_O → mm_M → Prop} (hfl : l.flags = pinnedFlags ++ [noTraceFlag]) {g : Nat → Nat} {S : ss_} (hS : rp_ g M S) {x : Int32} (hx : ¬ vp_in x 4) (hQ : ∀ a, mm_k M a = none → Q (.inr (a, 0)) M) : cx_ l yy_TC_step bb_TC_step 4 (some .int) 7 4 22 [.ref (g 0), .int x] M Q := by
  refine cx_of (by decide) (Nat.le_of_ble_eq_true rfl) (fun G A => ?_)
  refine jj_iload_n 1 dd_TC_step_0 rfl ?_
  refine jj_callS [_] [] 4 22 dd_TC_step_1 cs_TC_54 ci_TC_54 rfl (Nat.le_of_ble_eq_true rfl) ⟨(Nat.le_of_ble_eq_true rfl), (Nat.le_of_ble_eq_true rfl)⟩ ⟨(Nat.le_of_ble_eq_true rfl), (Nat.le_of_ble_eq_true rfl)⟩ rfl (ct_TC_isClient (fun hb => ?_) (fun hb => ?_))
  · skip
    refine jj_if_ne (tgt := 17) dd_TC_step_4 (by decide) (fun h => absurd h (by decide)) (fun _ => ?_)
    refine jj_throw hfl dd_TC_step_7 dd_TC_step_10 dd_TC_step_11 dd_TC_step_13 dd_TC_step_16 kd_TC_step to_TC_60 ⟨(Nat.le_of_ble_eq_true rfl), (Nat.le_of_ble_eq_true rfl)⟩ (Nat.le_of_ble_eq_true rfl) (Nat.le_of_ble_eq_true rfl) (fun a ha => ?_)
    exact hQ a ha
  · skip
    exact absurd hb hx
set_option maxRecDepth 20000 in
theorem cx_TC_get {l : Launch} {M : mm_M} {Q : mm_O → mm_M → Prop} (hfl : l.flags = pinnedFlags ++ [noTraceFlag]) {g : Nat → Nat} {S : ss_} (hS : rp_ g M S) {c i : Nat} (hc : c < 4) (hi : i < 12) (hci : ci_ S) (hQ : gtC_ S c i (fun e r S' => ∀ M', rp_ g M' S' → xo_ Q e r M')) : cx_ l yy_TC_get bb_TC_get 6 (some .int) 7 4 22 [.ref (g 0), .int (nI c), .int (nI i)] M Q := by
  refine cx_of (by decide) (Nat.le_of_ble_eq_true rfl) (fun G A => ?_)
  unfold gtC_ at hQ
  refine jj_aload_n 0 dd_TC_get_0 rfl ?_
  refine jj_iload_n 1 dd_TC_get_1 rfl ?_
  refine jj_iload_n 2 dd_TC_get_2 rfl ?_
  refine jj_callX (ci := 0) [_, _] [] 3 16 dd_TC_get_3 cs_TC_84 ml_TC_84 ci_TC_84 (hS.1.1 _ _ rfl) ⟨by decide, rfl⟩ rfl (Nat.le_of_ble_eq_true rfl) ⟨(Nat.le_of_ble_eq_true rfl), (Nat.le_of_ble_eq_true rfl)⟩ ⟨(Nat.le_of_ble_eq_true rfl), (Nat.le_of_ble_eq_true rfl)⟩ rfl kd_TC_get (cx_TC_readingTransaction hfl hS hc hi (fun hr => ?_) (fun hr1 hr2 => ?_))
  · skip
    intro a ha
    rcases hr with h | h
    · rw [if_pos h] at hQ
      exact hQ _ hS a ha
    · by_cases h2 : S.1 (40 + c) 2 = 0
      · rw [if_pos h2] at hQ
        exact hQ _ hS a ha
      · rw [if_neg h2, if_neg h] at hQ
        exact hQ _ hS a ha
  · skip
    rw [if_neg hr1, if_pos hr2] at hQ
    unfold gt1_ at hQ
    refine jj_astore_n (lv' := [(3, .ref (g (40 + c))), (0, .ref (g 0)), (1, .int (nI (c))), (2, .int (nI (i)))]) dd_TC_get_6 (Nat.le_of_ble_eq_true rfl) rfl ?_
    refine jj_aload_n 0 dd_TC_get_7 rfl ?_
    refine jj_iload_n 3 dd_TC_get_8 rfl ?_
    refine jj_callV (ci := 6) [_] [] 3 16 dd_TC_get_9 cs_TC_88 ci_TC_88 (hS.1.1 _ _ (ok_x hc)) ⟨by decide, rfl⟩ rfl (Nat.le_of_ble_eq_true rfl) ⟨(Nat.le_of_ble_eq_true rfl), (Nat.le_of_ble_eq_true rfl)⟩ ⟨(Nat.le_of_ble_eq_true rfl), (Nat.le_of_ble_eq_true rfl)⟩ rfl (ks_Tr_writesB hS hc (fun hw => ?_) (fun hw => ?_))
    · skip
      refine jj_if_eq (tgt := 21) dd_TC_get_12 (by decide) (fun h => absurd h (by decide)) (fun _ => ?_)
      refine jj_aload_n 0 dd_TC_get_15 rfl ?_
      refine jj_iload_n 3 dd_TC_get_16 rfl ?_
      rw [if_pos hw] at hQ
      refine jj_callX (ci := 6) [_] [] 0 0 dd_TC_get_17 cs_TC_91 ml_TC_91 ci_TC_91 (hS.1.1 _ _ (ok_x hc)) ⟨by decide, rfl⟩ rfl (Nat.le_of_ble_eq_true rfl) ⟨(Nat.le_of_ble_eq_true rfl), (Nat.le_of_ble_eq_true rfl)⟩ ⟨(Nat.le_of_ble_eq_true rfl), (Nat.le_of_ble_eq_true rfl)⟩ rfl kd_TC_get (cx_Tr_ownValue hfl hS hc hi (fun he a ha => ?_) (fun he => ?_))
      · skip
        rw [if_pos he] at hQ
        exact hQ _ hS a ha
      · skip
        refine jj_iret dd_TC_get_20 rfl rfl ?_
        rw [if_neg he] at hQ
        exact hQ _ hS
    · skip
      refine jj_if_eq (tgt := 21) dd_TC_get_12 (by decide) (fun _ => ?_) (fun h => absurd h (by decide))
      refine jj_aload_n 1 dd_TC_get_21 rfl ?_
      refine jj_tc3 hS dd_TC_get_22 ff_TC_38 ?_
      refine jj_iload_n 3 dd_TC_get_25 rfl ?_
      refine jj_at3 (i) hS dd_TC_get_26 (by omega) rfl ?_
      refine jj_astore (lv' := [(4, .ref (g (20 + i))), (3, .ref (g (40 + c))), (0, .ref (g 0)), (1, .int (nI (c))), (2, .int (nI (i)))]) dd_TC_get_27 (Nat.le_of_ble_eq_true rfl) rfl ?_
      refine jj_aload 0 dd_TC_get_29 rfl ?_
      refine jj_home hS dd_TC_get_31 ff_TC_95 (by omega) ?_
      refine jj_gS hS dd_TC_get_34 ff_TC_99 (ok_t (by omega)) (fun _ => rfl) ?_
      refine jj_if_ne (tgt := 50) dd_TC_get_37 (by decide) (fun h37 => ?_) (fun h37 => ?_)
      · skip
        refine jj_aload 0 dd_TC_get_50 rfl ?_
        refine jj_home hS dd_TC_get_52 ff_TC_95 (by omega) ?_
        refine jj_gS hS dd_TC_get_55 ff_TC_104 (ok_t (by omega)) (fun _ => rfl) ?_
        refine jj_aload_n 1 dd_TC_get_58 rfl ?_
        refine jj_gS hS dd_TC_get_59 ff_TC_81 (ok_x hc) (fun _ => rfl) ?_
        refine jj_icmp_le (tgt := 75) dd_TC_get_62 (by decide) (fun h62 => ?_) (fun h62 => ?_)
        · skip
          refine jj_aload 0 dd_TC_get_75 rfl ?_
          refine jj_aload_n 1 dd_TC_get_77 rfl ?_
          refine jj_gS hS dd_TC_get_78 ff_TC_81 (ok_x hc) (fun _ => rfl) ?_
          refine jj_callV (ci := 3) [_] [] 3 16 dd_TC_get_81 cs_TC_112 ci_TC_112 (hS.1.1 _ _ (ok_c (by omega))) ⟨by decide, rfl⟩ rfl (Nat.le_of_ble_eq_true rfl) ⟨(Nat.le_of_ble_eq_true rfl), (Nat.le_of_ble_eq_true rfl)⟩ ⟨(Nat.le_of_ble_eq_true rfl), (Nat.le_of_ble_eq_true rfl)⟩ rfl (ct_Ce_isLockedBefore hS hi ?_)
          refine jj_if_eq (tgt := 108) dd_TC_get_84 (by decide) (fun h84 => ?_) (fun h84 => ?_)
          · skip
            refine jj_aload 0 dd_TC_get_108 rfl ?_
            refine jj_aload_n 1 dd_TC_get_110 rfl ?_
            refine jj_gS hS dd_TC_get_111 ff_TC_81 (ok_x hc) (fun _ => rfl) ?_
            rw [if_neg hw, if_neg h37, if_pos h62, if_pos h84] at hQ
            unfold gtf_ at hQ
            refine jj_callV (ci := 3) [_] [] 1 6 dd_TC_get_114 cs_TC_121 ci_TC_121 (hS.1.1 _ _ (ok_c (by omega))) ⟨by decide, rfl⟩ rfl (Nat.le_of_ble_eq_true rfl) ⟨(Nat.le_of_ble_eq_true rfl), (Nat.le_of_ble_eq_true rfl)⟩ ⟨(Nat.le_of_ble_eq_true rfl), (Nat.le_of_ble_eq_true rfl)⟩ rfl (ct_Ce_lastWrittenBefore hS hi ⟨fun hv => ?_, fun b v hv hbk hbv => ?_⟩)
            · skip
              rw [hv] at hQ
              simp only [gtv_] at hQ
              refine jj_astoreN (lv' := [(5, .null), (4, .ref (g (20 + i))), (3, .ref (g (40 + c))), (0, .ref (g 0)), (1, .int (nI (c))), (2, .int (nI (i)))]) dd_TC_get_117 (Nat.le_of_ble_eq_true rfl) rfl ?_
              refine jj_aloadN 0 dd_TC_get_119 rfl ?_
              refine jj_ifnullN (tgt := 133) dd_TC_get_121 (by decide) ?_
              refine jj_throwN hfl dd_TC_get_133 dd_TC_get_136 dd_TC_get_137 dd_TC_get_139 dd_TC_get_142 kd_TC_get to_TC_132 ⟨(Nat.le_of_ble_eq_true rfl), (Nat.le_of_ble_eq_true rfl)⟩ (Nat.le_of_ble_eq_true rfl) (Nat.le_of_ble_eq_true rfl) (fun a ha => ?_)
              exact hQ _ hS a ha
            · skip
              rw [hv] at hQ
              simp only [gtv_] at hQ
              refine jj_astore (lv' := [(5, .ref b), (4, .ref (g (20 + i))), (3, .ref (g (40 + c))), (0, .ref (g 0)), (1, .int (nI (c))), (2, .int (nI (i)))]) dd_TC_get_117 (Nat.le_of_ble_eq_true rfl) rfl ?_
              refine jj_aload 0 dd_TC_get_119 rfl ?_
              refine jj_ifnull dd_TC_get_121 ?_
              refine jj_aload 0 dd_TC_get_124 rfl ?_
              refine jj_vf hbk hbv dd_TC_get_126 ff_TC_125 (fun _ => rfl) (by decide) ?_
              refine jj_iconst (v := 2) dd_TC_get_129 rfl ?_
              refine jj_icmp_ne (tgt := 143) dd_TC_get_130 (by decide) (fun h130 => ?_) (fun h130 => ?_)
              · skip
                refine jj_aload 0 dd_TC_get_143 rfl ?_
                refine jj_vf hbk hbv dd_TC_get_145 ff_TC_135 (fun _ => rfl) (by decide) ?_
                refine jj_iret dd_TC_get_148 rfl rfl ?_
                rw [if_neg h130] at hQ
                exact hQ _ hS
              · skip
                refine jj_throwN hfl dd_TC_get_133 dd_TC_get_136 dd_TC_get_137 dd_TC_get_139 dd_TC_get_142 kd_TC_get to_TC_132 ⟨(Nat.le_of_ble_eq_true rfl), (Nat.le_of_ble_eq_true rfl)⟩ (Nat.le_of_ble_eq_true rfl) (Nat.le_of_ble_eq_true rfl) (fun a ha => ?_)
                rw [if_pos h130] at hQ
                exact hQ _ hS a ha
          · skip
            refine jj_aload_n 2 dd_TC_get_87 rfl ?_
            refine jj_aload 0 dd_TC_get_88 rfl ?_
            rw [if_neg hw, if_neg h37, if_pos h62, if_neg h84] at hQ
            refine jj_callV (ci := 0) [.ref (g (20 + i))] [] 1 6 dd_TC_get_90 cs_TC_115 ci_TC_115 (hS.1.1 _ _ rfl) ⟨by decide, rfl⟩ rfl (Nat.le_of_ble_eq_true rfl) ⟨(Nat.le_of_ble_eq_true rfl), (Nat.le_of_ble_eq_true rfl)⟩ ⟨(Nat.le_of_ble_eq_true rfl), (Nat.le_of_ble_eq_true rfl)⟩ rfl (ct_TC_clearUp hS hi hci (cu_mono hi hci (fun r S1 _ hQ M hS => ?_) hQ))
            refine jj_bipush (v := -2) dd_TC_get_93 rfl ?_
            refine jj_icmp_ne (tgt := 108) dd_TC_get_95 (by decide) (fun h95 => ?_) (fun h95 => ?_)
            · skip
              refine jj_aload 0 dd_TC_get_108 rfl ?_
              refine jj_aload_n 1 dd_TC_get_110 rfl ?_
              refine jj_gS hS dd_TC_get_111 ff_TC_81 (ok_x hc) (fun _ => rfl) ?_
              rw [if_neg h95] at hQ
              unfold gtf_ at hQ
              refine jj_callV (ci := 3) [_] [] 1 6 dd_TC_get_114 cs_TC_121 ci_TC_121 (hS.1.1 _ _ (ok_c (by omega))) ⟨by decide, rfl⟩ rfl (Nat.le_of_ble_eq_true rfl) ⟨(Nat.le_of_ble_eq_true rfl), (Nat.le_of_ble_eq_true rfl)⟩ ⟨(Nat.le_of_ble_eq_true rfl), (Nat.le_of_ble_eq_true rfl)⟩ rfl (ct_Ce_lastWrittenBefore hS hi ⟨fun hv => ?_, fun b v hv hbk hbv => ?_⟩)
              · skip
                rw [hv] at hQ
                simp only [gtv_] at hQ
                refine jj_astoreN (lv' := [(5, .null), (4, .ref (g (20 + i))), (3, .ref (g (40 + c))), (0, .ref (g 0)), (1, .int (nI (c))), (2, .int (nI (i)))]) dd_TC_get_117 (Nat.le_of_ble_eq_true rfl) rfl ?_
                refine jj_aloadN 0 dd_TC_get_119 rfl ?_
                refine jj_ifnullN (tgt := 133) dd_TC_get_121 (by decide) ?_
                refine jj_throwN hfl dd_TC_get_133 dd_TC_get_136 dd_TC_get_137 dd_TC_get_139 dd_TC_get_142 kd_TC_get to_TC_132 ⟨(Nat.le_of_ble_eq_true rfl), (Nat.le_of_ble_eq_true rfl)⟩ (Nat.le_of_ble_eq_true rfl) (Nat.le_of_ble_eq_true rfl) (fun a ha => ?_)
                exact hQ _ hS a ha
              · skip
                rw [hv] at hQ
                simp only [gtv_] at hQ
                refine jj_astore (lv' := [(5, .ref b), (4, .ref (g (20 + i))), (3, .ref (g (40 + c))), (0, .ref (g 0)), (1, .int (nI (c))), (2, .int (nI (i)))]) dd_TC_get_117 (Nat.le_of_ble_eq_true rfl) rfl ?_
                refine jj_aload 0 dd_TC_get_119 rfl ?_
                refine jj_ifnull dd_TC_get_121 ?_
                refine jj_aload 0 dd_TC_get_124 rfl ?_
                refine jj_vf hbk hbv dd_TC_get_126 ff_TC_125 (fun _ => rfl) (by decide) ?_
                refine jj_iconst (v := 2) dd_TC_get_129 rfl ?_
                refine jj_icmp_ne (tgt := 143) dd_TC_get_130 (by decide) (fun h130 => ?_) (fun h130 => ?_)
                · skip
                  refine jj_aload 0 dd_TC_get_143 rfl ?_
                  refine jj_vf hbk hbv dd_TC_get_145 ff_TC_135 (fun _ => rfl) (by decide) ?_
                  refine jj_iret dd_TC_get_148 rfl rfl ?_
                  rw [if_neg h130] at hQ
                  exact hQ _ hS
                · skip
                  refine jj_throwN hfl dd_TC_get_133 dd_TC_get_136 dd_TC_get_137 dd_TC_get_139 dd_TC_get_142 kd_TC_get to_TC_132 ⟨(Nat.le_of_ble_eq_true rfl), (Nat.le_of_ble_eq_true rfl)⟩ (Nat.le_of_ble_eq_true rfl) (Nat.le_of_ble_eq_true rfl) (fun a ha => ?_)
                  rw [if_pos h130] at hQ
                  exact hQ _ hS a ha
            · skip
              refine jj_throw hfl dd_TC_get_98 dd_TC_get_101 dd_TC_get_102 dd_TC_get_104 dd_TC_get_107 kd_TC_get to_TC_119 ⟨(Nat.le_of_ble_eq_true rfl), (Nat.le_of_ble_eq_true rfl)⟩ (Nat.le_of_ble_eq_true rfl) (Nat.le_of_ble_eq_true rfl) (fun a ha => ?_)
              rw [if_pos h95] at hQ
              exact hQ _ hS a ha
        · skip
          refine jj_throw hfl dd_TC_get_65 dd_TC_get_68 dd_TC_get_69 dd_TC_get_71 dd_TC_get_74 kd_TC_get to_TC_109 ⟨(Nat.le_of_ble_eq_true rfl), (Nat.le_of_ble_eq_true rfl)⟩ (Nat.le_of_ble_eq_true rfl) (Nat.le_of_ble_eq_true rfl) (fun a ha => ?_)
          rw [if_neg hw, if_neg h37, if_neg h62] at hQ
          exact hQ _ hS a ha
      · skip
        refine jj_throw hfl dd_TC_get_40 dd_TC_get_43 dd_TC_get_44 dd_TC_get_46 dd_TC_get_49 kd_TC_get to_TC_102 ⟨(Nat.le_of_ble_eq_true rfl), (Nat.le_of_ble_eq_true rfl)⟩ (Nat.le_of_ble_eq_true rfl) (Nat.le_of_ble_eq_true rfl) (fun a ha => ?_)
        rw [if_neg hw, if_pos h37] at hQ
        exact hQ _ hS a ha
set_option maxRecDepth 20000 in
theorem cx_TC_get0 {l : Launch} {M : mm_M} {Q : mm_O → mm_M → Prop} (hfl : l.flags = pinnedFlags ++ [noTraceFlag]) {g : Nat → Nat} {S : ss_} (hS : rp_ g M S) {x y : Int32} (hx : ¬ vp_in x 4 ∨ ¬ vp_in y 12) (hQ : ∀ a, mm_k M a = none → Q (.inr (a, 0)) M) : cx_ l yy_TC_get bb_TC_get 6 (some .int) 7 4 22 [.ref (g 0), .int x, .int y] M Q := by
  refine cx_of (by decide) (Nat.le_of_ble_eq_true rfl) (fun G A => ?_)
  refine jj_aload_n 0 dd_TC_get_0 rfl ?_
  refine jj_iload_n 1 dd_TC_get_1 rfl ?_
  refine jj_iload_n 2 dd_TC_get_2 rfl ?_
  refine jj_callX (ci := 0) [_, _] [] 3 16 dd_TC_get_3 cs_TC_84 ml_TC_84 ci_TC_84 (hS.1.1 _ _ rfl) ⟨by decide, rfl⟩ rfl (Nat.le_of_ble_eq_true rfl) ⟨(Nat.le_of_ble_eq_true rfl), (Nat.le_of_ble_eq_true rfl)⟩ ⟨(Nat.le_of_ble_eq_true rfl), (Nat.le_of_ble_eq_true rfl)⟩ rfl kd_TC_get (cx_TC_readingTransaction0 hfl hS hx (fun a ha => ?_))
  · skip
    exact hQ a ha
set_option maxRecDepth 20000 in
theorem cx_TC_set {l : Launch} {M : mm_M} {Q : mm_O → mm_M → Prop} (hfl : l.flags = pinnedFlags ++ [noTraceFlag]) {g : Nat → Nat} {S : ss_} (hS : rp_ g M S) {c i : Nat} {y : Int32} (hc : c < 4) (hi : i < 12) (hQ : seC_ S c i y (fun e S' => ∀ M', rp_ g M' S' → xv_ Q e M')) : cx_ l yy_TC_set bb_TC_set 4 none 7 1 6 [.ref (g 0), .int (nI c), .int (nI i), .int y] M Q := by
  refine cx_of (by decide) (Nat.le_of_ble_eq_true rfl) (fun G A => ?_)
  unfold seC_ at hQ
  refine jj_aload_n 0 dd_TC_set_0 rfl ?_
  refine jj_iload_n 1 dd_TC_set_1 rfl ?_
  refine jj_iload_n 2 dd_TC_set_2 rfl ?_
  refine jj_callX (ci := 0) [_, _] [] 0 0 dd_TC_set_3 cs_TC_84 ml_TC_84 ci_TC_84 (hS.1.1 _ _ rfl) ⟨by decide, rfl⟩ rfl (Nat.le_of_ble_eq_true rfl) ⟨(Nat.le_of_ble_eq_true rfl), (Nat.le_of_ble_eq_true rfl)⟩ ⟨(Nat.le_of_ble_eq_true rfl), (Nat.le_of_ble_eq_true rfl)⟩ rfl kd_TC_set (cx_TC_readingTransaction hfl hS hc hi (fun hr => ?_) (fun hr1 hr2 => ?_))
  · skip
    intro a ha
    rcases hr with h | h
    · rw [if_pos h] at hQ
      exact hQ _ hS a ha
    · by_cases h2 : S.1 (40 + c) 2 = 0
      · rw [if_pos h2] at hQ
        exact hQ _ hS a ha
      · rw [if_neg h2, if_neg h] at hQ
        exact hQ _ hS a ha
  · skip
    rw [if_neg hr1, if_pos hr2] at hQ
    refine jj_iload_n 2 dd_TC_set_6 rfl ?_
    refine jj_iload_n 3 dd_TC_set_7 rfl ?_
    refine jj_callV (ci := 6) [_, _] [] 0 0 dd_TC_set_8 cs_TC_138 ci_TC_138 (hS.1.1 _ _ (ok_x hc)) ⟨by decide, rfl⟩ rfl (Nat.le_of_ble_eq_true rfl) ⟨(Nat.le_of_ble_eq_true rfl), (Nat.le_of_ble_eq_true rfl)⟩ ⟨(Nat.le_of_ble_eq_true rfl), (Nat.le_of_ble_eq_true rfl)⟩ rfl (ks_Tr_willPut hS hc hi (fun M hS => ?_))
    refine jj_vret dd_TC_set_11 rfl ?_
    exact hQ _ hS
set_option maxRecDepth 20000 in
theorem cx_TC_set0 {l : Launch} {M : mm_M} {Q : mm_O → mm_M → Prop} (hfl : l.flags = pinnedFlags ++ [noTraceFlag]) {g : Nat → Nat} {S : ss_} (hS : rp_ g M S) {x y z : Int32} (hx : ¬ vp_in x 4 ∨ ¬ vp_in y 12) (hQ : ∀ a, mm_k M a = none → Q (.inr (a, 0)) M) : cx_ l yy_TC_set bb_TC_set 4 none 7 1 6 [.ref (g 0), .int x, .int y, .int z] M Q := by
  refine cx_of (by decide) (Nat.le_of_ble_eq_true rfl) (fun G A => ?_)
  refine jj_aload_n 0 dd_TC_set_0 rfl ?_
  refine jj_iload_n 1 dd_TC_set_1 rfl ?_
  refine jj_iload_n 2 dd_TC_set_2 rfl ?_
  refine jj_callX (ci := 0) [_, _] [] 0 0 dd_TC_set_3 cs_TC_84 ml_TC_84 ci_TC_84 (hS.1.1 _ _ rfl) ⟨by decide, rfl⟩ rfl (Nat.le_of_ble_eq_true rfl) ⟨(Nat.le_of_ble_eq_true rfl), (Nat.le_of_ble_eq_true rfl)⟩ ⟨(Nat.le_of_ble_eq_true rfl), (Nat.le_of_ble_eq_true rfl)⟩ rfl kd_TC_set (cx_TC_readingTransaction0 hfl hS hx (fun a ha => ?_))
  · skip
    exact hQ a ha
set_option maxRecDepth 20000 in
theorem cx_TC_erase {l : Launch} {M : mm_M} {Q : mm_O → mm_M → Prop} (hfl : l.flags = pinnedFlags ++ [noTraceFlag]) {g : Nat → Nat} {S : ss_} (hS : rp_ g M S) {c i : Nat} (hc : c < 4) (hi : i < 12) (hQ : erC_ S c i (fun e S' => ∀ M', rp_ g M' S' → xv_ Q e M')) : cx_ l yy_TC_erase bb_TC_erase 3 none 7 1 6 [.ref (g 0), .int (nI c), .int (nI i)] M Q := by
  refine cx_of (by decide) (Nat.le_of_ble_eq_true rfl) (fun G A => ?_)
  unfold erC_ at hQ
  refine jj_aload_n 0 dd_TC_erase_0 rfl ?_
  refine jj_iload_n 1 dd_TC_erase_1 rfl ?_
  refine jj_iload_n 2 dd_TC_erase_2 rfl ?_
  refine jj_callX (ci := 0) [_, _] [] 0 0 dd_TC_erase_3 cs_TC_84 ml_TC_84 ci_TC_84 (hS.1.1 _ _ rfl) ⟨by decide, rfl⟩ rfl (Nat.le_of_ble_eq_true rfl) ⟨(Nat.le_of_ble_eq_true rfl), (Nat.le_of_ble_eq_true rfl)⟩ ⟨(Nat.le_of_ble_eq_true rfl), (Nat.le_of_ble_eq_true rfl)⟩ rfl kd_TC_erase (cx_TC_readingTransaction hfl hS hc hi (fun hr => ?_) (fun hr1 hr2 => ?_))
  · skip
    intro a ha
    rcases hr with h | h
    · rw [if_pos h] at hQ
      exact hQ _ hS a ha
    · by_cases h2 : S.1 (40 + c) 2 = 0
      · rw [if_pos h2] at hQ
        exact hQ _ hS a ha
      · rw [if_neg h2, if_neg h] at hQ
        exact hQ _ hS a ha
  · skip
    rw [if_neg hr1, if_pos hr2] at hQ
    refine jj_iload_n 2 dd_TC_erase_6 rfl ?_
    refine jj_callV (ci := 6) [_] [] 0 0 dd_TC_erase_7 cs_TC_142 ci_TC_142 (hS.1.1 _ _ (ok_x hc)) ⟨by decide, rfl⟩ rfl (Nat.le_of_ble_eq_true rfl) ⟨(Nat.le_of_ble_eq_true rfl), (Nat.le_of_ble_eq_true rfl)⟩ ⟨(Nat.le_of_ble_eq_true rfl), (Nat.le_of_ble_eq_true rfl)⟩ rfl (ks_Tr_willErase hS hc hi (fun M hS => ?_))
    refine jj_vret dd_TC_erase_10 rfl ?_
    exact hQ _ hS
set_option maxRecDepth 20000 in
theorem cx_TC_erase0 {l : Launch} {M : mm_M} {Q : mm_O → mm_M → Prop} (hfl : l.flags = pinnedFlags ++ [noTraceFlag]) {g : Nat → Nat} {S : ss_} (hS : rp_ g M S) {x y : Int32} (hx : ¬ vp_in x 4 ∨ ¬ vp_in y 12) (hQ : ∀ a, mm_k M a = none → Q (.inr (a, 0)) M) : cx_ l yy_TC_erase bb_TC_erase 3 none 7 1 6 [.ref (g 0), .int x, .int y] M Q := by
  refine cx_of (by decide) (Nat.le_of_ble_eq_true rfl) (fun G A => ?_)
  refine jj_aload_n 0 dd_TC_erase_0 rfl ?_
  refine jj_iload_n 1 dd_TC_erase_1 rfl ?_
  refine jj_iload_n 2 dd_TC_erase_2 rfl ?_
  refine jj_callX (ci := 0) [_, _] [] 0 0 dd_TC_erase_3 cs_TC_84 ml_TC_84 ci_TC_84 (hS.1.1 _ _ rfl) ⟨by decide, rfl⟩ rfl (Nat.le_of_ble_eq_true rfl) ⟨(Nat.le_of_ble_eq_true rfl), (Nat.le_of_ble_eq_true rfl)⟩ ⟨(Nat.le_of_ble_eq_true rfl), (Nat.le_of_ble_eq_true rfl)⟩ rfl kd_TC_erase (cx_TC_readingTransaction0 hfl hS hx (fun a ha => ?_))
  · skip
    exact hQ a ha
