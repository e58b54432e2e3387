def kiC_ (S : ss_) (c : Nat) (K : Int32 → ss_ → Prop) : Prop := if S.1 (40 + c) 2 = 0 then K 0 S else K 1 (trE_ S.1 c, S.2)
def tkC_ (S : ss_) (x : Int32) (K : Int32 → ss_ → Prop) : Prop := if x < 0 then K (-1) S else if x ≤ 50 then K ((uf_ S.1 0 5 (S.1 0 5 + x)) 0 5) (uf_ S.1 0 5 (S.1 0 5 + x), S.2) else K (-1) S
def crC_ (S : ss_) (t : Nat) (K : Int32 → ss_ → Prop) : Prop := if S.1 (10 + t) 0 = 0 then K 0 S else K 1 (uf_ S.1 (10 + t) 0 0, S.2)
def reC_ (S : ss_) (t : Nat) (K : Int32 → ss_ → Prop) : Prop := if S.1 (10 + t) 0 = 0 then K 1 (uf_ (uf_ S.1 (10 + t) 0 1) (10 + t) 4 0, S.2) else K 0 S
def faC_ (S : ss_) (t : Nat) (x b : Int32) (K : Int32 → ss_ → Prop) : Prop := if x < 0 then K 0 S else if x ≤ 20 then K 1 (uf_ (uf_ S.1 (10 + t) 4 x) (10 + t) 5 b, S.2) else K 0 S
def orC_ (F : Nat → Nat → Int32) (x : Int32) : Int32 := if x = 0 then F 1 0 else if x = 1 then F 1 1 else if x = 2 then F 0 5 else -1
def taC_ (F : Nat → Nat → Int32) (t : Nat) (x : Int32) : Int32 := if x = 0 then F (10 + t) 2 else if x = 1 then (if F (10 + t) 0 = 0 then -1 else F (10 + t) 1) else if x = 2 then F (10 + t) 3 else -1
def lkA_ (f : Nat → Int32) (x : Int32) : Int32 := if x = 0 then f 0 else if x = 1 then f 1 else if x = 2 then f 2 else if x = 3 then f 3 else if x = 5 then f 5 else -1
def lkR_ (F : Nat → Nat → Int32) (x : Int32) : Option (Nat → Int32) → Int32
  | none => -1
  | some f => if x = 4 then (if lsC_ F f (cN_ f) = 0 then 0 else 1) else lkA_ f x
def vvA_ (v : vv_) (x : Int32) : Int32 := if x = 0 then v.1 else if x = 1 then v.2.1 else if x = 2 then v.2.2.1 else if x = 3 then v.2.2.2 else -1
def vvR_ (x : Int32) : Option vv_ → Int32
  | none => -1
  | some v => vvA_ v x
def mst_ (F : Nat → Nat → Int32) (x : Int32) : Nat → Nat → Int32 → Int32
  | 0, _, z => z
  | n + 1, k, z => if F (10 + k) 0 = 0 then 0 else if F (10 + k) 1 < x then mst_ F x n (k + 1) z else 0
def msc_ (L : Nat → Option (Nat → Int32)) (x : Int32) : Nat → Nat → Int32 → Int32
  | 0, _, z => z
  | n + 1, k, z => if lt_ (L k) x = 0 then msc_ L x n (k + 1) z else 0
def msx_ (F : Nat → Nat → Int32) (x : Int32) : Nat → Nat → Int32 → Int32
  | 0, _, z => z
  | n + 1, k, z => if F (40 + k) 2 = 0 then msx_ F x n (k + 1) z else if F (40 + k) 3 = 0 then msx_ F x n (k + 1) z else if x ≤ F (40 + k) 4 then msx_ F x n (k + 1) z else 0
def msC_ (S : ss_) (x : Int32) : Int32 := if x < 1 then 0 else if x ≤ S.1 1 0 then mst_ S.1 x 3 0 (msc_ S.2.1 x 12 0 (msx_ S.1 x 4 0 1)) else 0
def fgs_ (S : ss_) (k : Nat) (x : Int32) : ss_ := (uf_ S.1 (20 + k) 3 (fg_ x (S.2.2 k) 0 (S.1 (20 + k) 3)).2, S.2.1, up_ S.2.2 k (fg_ x (S.2.2 k) 0 (S.1 (20 + k) 3)).1)
def ws_go (x : Int32) (t : Nat) : Nat → Nat → ss_ → ss_
  | 0, _, S => S
  | n + 1, k, S => ws_go x t n (k + 1) (if k / 4 = t then fgs_ S k x else S)
def wsS_ (S : ss_) (t : Nat) (x : Int32) : ss_ := if plr_ S.1 t = 0 then (plF_ S.1 t, S.2) else ws_go x t 12 0 (uf_ (plF_ S.1 t) (10 + t) 1 x, S.2)
def swC_go (x : Int32) : Nat → Nat → Int32 → ss_ → (Int32 → ss_ → Prop) → Prop
  | 0, _, a, S, K => K a S
  | n + 1, k, a, S, K => if plr_ S.1 k = 0 then (if (wsS_ S k x).1 (10 + k) 0 = 0 then K a (wsS_ S k x) else swC_go x n (k + 1) a (wsS_ S k x) K) else (if (wsS_ S k x).1 (10 + k) 0 = 0 then K (a + 1) (wsS_ S k x) else swC_go x n (k + 1) (a + 1) (wsS_ S k x) K)
def swC_ (S : ss_) (x : Int32) (K : Int32 → ss_ → Prop) : Prop := if msC_ S x = 0 then K (-1) S else swC_go x 3 0 0 S K
set_option maxRecDepth 20000 in
theorem ct_TC_kill {l : Launch} {M : mm_M} {Q : Option Value → mm_M → Prop} {g : Nat → Nat} {S : ss_} (hS : rp_ g M S) {c : Nat} (hc : c < 4) (hQ : kiC_ S c (fun r S' => ∀ M', rp_ g M' S' → Q (some (.int r)) M')) : ct_ l yy_TC_kill bb_TC_kill 2 (some .boolean) 1 0 0 [.ref (g 0), .int (nI c)] M Q := by
  refine ct_of (by decide) (Nat.le_of_ble_eq_true rfl) (fun G A => ?_)
  unfold kiC_ at hQ
  refine jj_iload_n 1 dd_TC_kill_0 rfl ?_
  refine jj_callS [_] [] 0 0 dd_TC_kill_1 cs_TC_54 ci_TC_54 rfl (Nat.le_of_ble_eq_true rfl) ⟨(Nat.le_of_ble_eq_true rfl), (Nat.le_of_ble_eq_true rfl)⟩ ⟨(Nat.le_of_ble_eq_true rfl), (Nat.le_of_ble_eq_true rfl)⟩ rfl (ct_TC_isClient (fun hb => ?_) (fun hb => ?_))
  · skip
    exact absurd (vp_in_nI (n := c) (by omega) (by decide)) hb
  · skip
    refine jj_if_eq (tgt := 19) dd_TC_kill_4 (by decide) (fun h => absurd h (by decide)) (fun _ => ?_)
    refine jj_aload_n 0 dd_TC_kill_7 rfl ?_
    refine jj_tc4 hS dd_TC_kill_8 ff_TC_47 ?_
    refine jj_iload_n 1 dd_TC_kill_11 rfl ?_
    refine jj_at4 (c) hS dd_TC_kill_12 (by omega) rfl ?_
    refine jj_gS hS dd_TC_kill_13 ff_TC_65 (ok_x (by omega)) (fun _ => rfl) ?_
    refine jj_if_ne (tgt := 21) dd_TC_kill_16 (by decide) (fun h16 => ?_) (fun h16 => ?_)
    · skip
      refine jj_aload_n 0 dd_TC_kill_21 rfl ?_
      refine jj_tc4 hS dd_TC_kill_22 ff_TC_47 ?_
      refine jj_iload_n 1 dd_TC_kill_25 rfl ?_
      refine jj_at4 (c) hS dd_TC_kill_26 (by omega) rfl ?_
      refine jj_callV (ci := 6) [] [] 0 0 dd_TC_kill_27 cs_TC_154 ci_TC_154 (hS.1.1 _ _ (ok_x (by omega))) ⟨by decide, rfl⟩ rfl (Nat.le_of_ble_eq_true rfl) ⟨(Nat.le_of_ble_eq_true rfl), (Nat.le_of_ble_eq_true rfl)⟩ ⟨(Nat.le_of_ble_eq_true rfl), (Nat.le_of_ble_eq_true rfl)⟩ rfl (ks_Tr_end hS hc (fun M hS => ?_))
      refine jj_iconst (v := 1) dd_TC_kill_30 rfl ?_
      refine jj_iret dd_TC_kill_31 rfl rfl ?_
      rw [if_neg h16] at hQ
      exact hQ _ hS
    · skip
      refine jj_iconst (v := 0) dd_TC_kill_19 rfl ?_
      refine jj_iret dd_TC_kill_20 rfl rfl ?_
      rw [if_pos h16] at hQ
      exact hQ _ hS
set_option maxRecDepth 20000 in
theorem ct_TC_kill0 {l : Launch} {M : mm_M} {Q : Option Value → mm_M → Prop} {g : Nat → Nat} {S : ss_} (hS : rp_ g M S) {x y z : Int32} (hx : ¬ vp_in x 4) (hQ : Q (some (.int 0)) M) : ct_ l yy_TC_kill bb_TC_kill 2 (some .boolean) 1 0 0 [.ref (g 0), .int x] M Q := by
  refine ct_of (by decide) (Nat.le_of_ble_eq_true rfl) (fun G A => ?_)
  refine jj_iload_n 1 dd_TC_kill_0 rfl ?_
  refine jj_callS [_] [] 0 0 dd_TC_kill_1 cs_TC_54 ci_TC_54 rfl (Nat.le_of_ble_eq_true rfl) ⟨(Nat.le_of_ble_eq_true rfl), (Nat.le_of_ble_eq_true rfl)⟩ ⟨(Nat.le_of_ble_eq_true rfl), (Nat.le_of_ble_eq_true rfl)⟩ rfl (ct_TC_isClient (fun hb => ?_) (fun hb => ?_))
  · skip
    refine jj_if_eq (tgt := 19) dd_TC_kill_4 (by decide) (fun _ => ?_) (fun h => absurd h (by decide))
    refine jj_iconst (v := 0) dd_TC_kill_19 rfl ?_
    refine jj_iret dd_TC_kill_20 rfl rfl ?_
    exact hQ
  · skip
    exact absurd hb hx
set_option maxRecDepth 20000 in
theorem ct_TC_tick {l : Launch} {M : mm_M} {Q : Option Value → mm_M → Prop} {g : Nat → Nat} {S : ss_} (hS : rp_ g M S) {x : Int32} (hQ : tkC_ S x (fun r S' => ∀ M', rp_ g M' S' → Q (some (.int r)) M')) : ct_ l yy_TC_tick bb_TC_tick 2 (some .int) 0 0 0 [.ref (g 0), .int x] M Q := by
  refine ct_of (by decide) (Nat.le_of_ble_eq_true rfl) (fun G A => ?_)
  unfold tkC_ at hQ
  refine jj_iload_n 1 dd_TC_tick_0 rfl ?_
  refine jj_if_lt (tgt := 10) dd_TC_tick_1 (by decide) (fun h1 => ?_) (fun h1 => ?_)
  · skip
    refine jj_iconst (v := (-1)) dd_TC_tick_10 rfl ?_
    refine jj_iret dd_TC_tick_11 rfl rfl ?_
    rw [if_pos h1] at hQ
    exact hQ _ hS
  · skip
    refine jj_iload_n 1 dd_TC_tick_4 rfl ?_
    refine jj_bipush (v := 50) dd_TC_tick_5 rfl ?_
    refine jj_icmp_le (tgt := 12) dd_TC_tick_7 (by decide) (fun h7 => ?_) (fun h7 => ?_)
    · skip
      refine jj_aload_n 0 dd_TC_tick_12 rfl ?_
      refine jj_dup dd_TC_tick_13 rfl ?_
      refine jj_gS hS dd_TC_tick_14 ff_TC_162 rfl (fun _ => rfl) ?_
      refine jj_iload_n 1 dd_TC_tick_17 rfl ?_
      refine jj_iadd dd_TC_tick_18 ?_
      refine jj_pS hS dd_TC_tick_19 ⟨ff_TC_162, rfl⟩ rfl (fun _ => rfl) ⟨rfl, rfl⟩ (fun M hS => ?_)
      refine jj_aload_n 0 dd_TC_tick_22 rfl ?_
      refine jj_gS hS dd_TC_tick_23 ff_TC_162 rfl (fun _ => rfl) ?_
      refine jj_iret dd_TC_tick_26 rfl rfl ?_
      rw [if_neg h1, if_pos h7] at hQ
      exact hQ _ hS
    · skip
      refine jj_iconst (v := (-1)) dd_TC_tick_10 rfl ?_
      refine jj_iret dd_TC_tick_11 rfl rfl ?_
      rw [if_neg h1, if_neg h7] at hQ
      exact hQ _ hS
set_option maxRecDepth 20000 in
theorem ct_TC_crash {l : Launch} {M : mm_M} {Q : Option Value → mm_M → Prop} {g : Nat → Nat} {S : ss_} (hS : rp_ g M S) {t : Nat} (ht : t < 3) (hQ : crC_ S t (fun r S' => ∀ M', rp_ g M' S' → Q (some (.int r)) M')) : ct_ l yy_TC_crash bb_TC_crash 2 (some .boolean) 1 0 0 [.ref (g 0), .int (nI t)] M Q := by
  refine ct_of (by decide) (Nat.le_of_ble_eq_true rfl) (fun G A => ?_)
  unfold crC_ at hQ
  refine jj_iload_n 1 dd_TC_crash_0 rfl ?_
  refine jj_callS [_] [] 0 0 dd_TC_crash_1 cs_TC_165 ci_TC_165 rfl (Nat.le_of_ble_eq_true rfl) ⟨(Nat.le_of_ble_eq_true rfl), (Nat.le_of_ble_eq_true rfl)⟩ ⟨(Nat.le_of_ble_eq_true rfl), (Nat.le_of_ble_eq_true rfl)⟩ rfl (ct_TC_isTablet (fun hb => ?_) (fun hb => ?_))
  · skip
    exact absurd (vp_in_nI (n := t) (by omega) (by decide)) hb
  · skip
    refine jj_if_eq (tgt := 19) dd_TC_crash_4 (by decide) (fun h => absurd h (by decide)) (fun _ => ?_)
    refine jj_aload_n 0 dd_TC_crash_7 rfl ?_
    refine jj_tc2 hS dd_TC_crash_8 ff_TC_31 ?_
    refine jj_iload_n 1 dd_TC_crash_11 rfl ?_
    refine jj_at2 (t) hS dd_TC_crash_12 (by omega) rfl ?_
    refine jj_gS hS dd_TC_crash_13 ff_TC_99 (ok_t (by omega)) (fun _ => rfl) ?_
    refine jj_if_ne (tgt := 21) dd_TC_crash_16 (by decide) (fun h16 => ?_) (fun h16 => ?_)
    · skip
      refine jj_aload_n 0 dd_TC_crash_21 rfl ?_
      refine jj_tc2 hS dd_TC_crash_22 ff_TC_31 ?_
      refine jj_iload_n 1 dd_TC_crash_25 rfl ?_
      refine jj_at2 (t) hS dd_TC_crash_26 (by omega) rfl ?_
      refine jj_iconst (v := 0) dd_TC_crash_27 rfl ?_
      refine jj_pS hS dd_TC_crash_28 ⟨ff_TC_99, rfl⟩ (ok_t (by omega)) (fun _ => rfl) ⟨rfl, rfl⟩ (fun M hS => ?_)
      refine jj_iconst (v := 1) dd_TC_crash_31 rfl ?_
      refine jj_iret dd_TC_crash_32 rfl rfl ?_
      rw [if_neg h16] at hQ
      exact hQ _ hS
    · skip
      refine jj_iconst (v := 0) dd_TC_crash_19 rfl ?_
      refine jj_iret dd_TC_crash_20 rfl rfl ?_
      rw [if_pos h16] at hQ
      exact hQ _ hS
set_option maxRecDepth 20000 in
theorem ct_TC_crash0 {l : Launch} {M : mm_M} {Q : Option Value → mm_M → Prop} {g : Nat → Nat} {S : ss_} (hS : rp_ g M S) {x y z : Int32} (hx : ¬ vp_in x 3) (hQ : Q (some (.int 0)) M) : ct_ l yy_TC_crash bb_TC_crash 2 (some .boolean) 1 0 0 [.ref (g 0), .int x] M Q := by
  refine ct_of (by decide) (Nat.le_of_ble_eq_true rfl) (fun G A => ?_)
  refine jj_iload_n 1 dd_TC_crash_0 rfl ?_
  refine jj_callS [_] [] 0 0 dd_TC_crash_1 cs_TC_165 ci_TC_165 rfl (Nat.le_of_ble_eq_true rfl) ⟨(Nat.le_of_ble_eq_true rfl), (Nat.le_of_ble_eq_true rfl)⟩ ⟨(Nat.le_of_ble_eq_true rfl), (Nat.le_of_ble_eq_true rfl)⟩ rfl (ct_TC_isTablet (fun hb => ?_) (fun hb => ?_))
  · skip
    refine jj_if_eq (tgt := 19) dd_TC_crash_4 (by decide) (fun _ => ?_) (fun h => absurd h (by decide))
    refine jj_iconst (v := 0) dd_TC_crash_19 rfl ?_
    refine jj_iret dd_TC_crash_20 rfl rfl ?_
    exact hQ
  · skip
    exact absurd hb hx
set_option maxRecDepth 20000 in
theorem ct_TC_recover {l : Launch} {M : mm_M} {Q : Option Value → mm_M → Prop} {g : Nat → Nat} {S : ss_} (hS : rp_ g M S) {t : Nat} (ht : t < 3) (hQ : reC_ S t (fun r S' => ∀ M', rp_ g M' S' → Q (some (.int r)) M')) : ct_ l yy_TC_recover bb_TC_recover 2 (some .boolean) 1 0 0 [.ref (g 0), .int (nI t)] M Q := by
  refine ct_of (by decide) (Nat.le_of_ble_eq_true rfl) (fun G A => ?_)
  unfold reC_ at hQ
  refine jj_iload_n 1 dd_TC_recover_0 rfl ?_
  refine jj_callS [_] [] 0 0 dd_TC_recover_1 cs_TC_165 ci_TC_165 rfl (Nat.le_of_ble_eq_true rfl) ⟨(Nat.le_of_ble_eq_true rfl), (Nat.le_of_ble_eq_true rfl)⟩ ⟨(Nat.le_of_ble_eq_true rfl), (Nat.le_of_ble_eq_true rfl)⟩ rfl (ct_TC_isTablet (fun hb => ?_) (fun hb => ?_))
  · skip
    exact absurd (vp_in_nI (n := t) (by omega) (by decide)) hb
  · skip
    refine jj_if_eq (tgt := 19) dd_TC_recover_4 (by decide) (fun h => absurd h (by decide)) (fun _ => ?_)
    refine jj_aload_n 0 dd_TC_recover_7 rfl ?_
    refine jj_tc2 hS dd_TC_recover_8 ff_TC_31 ?_
    refine jj_iload_n 1 dd_TC_recover_11 rfl ?_
    refine jj_at2 (t) hS dd_TC_recover_12 (by omega) rfl ?_
    refine jj_gS hS dd_TC_recover_13 ff_TC_99 (ok_t (by omega)) (fun _ => rfl) ?_
    refine jj_if_eq (tgt := 21) dd_TC_recover_16 (by decide) (fun h16 => ?_) (fun h16 => ?_)
    · skip
      refine jj_aload_n 0 dd_TC_recover_21 rfl ?_
      refine jj_tc2 hS dd_TC_recover_22 ff_TC_31 ?_
      refine jj_iload_n 1 dd_TC_recover_25 rfl ?_
      refine jj_at2 (t) hS dd_TC_recover_26 (by omega) rfl ?_
      refine jj_callV (ci := 2) [] [] 0 0 dd_TC_recover_27 cs_TC_168 ci_TC_168 (hS.1.1 _ _ (ok_t (by omega))) ⟨by decide, rfl⟩ rfl (Nat.le_of_ble_eq_true rfl) ⟨(Nat.le_of_ble_eq_true rfl), (Nat.le_of_ble_eq_true rfl)⟩ ⟨(Nat.le_of_ble_eq_true rfl), (Nat.le_of_ble_eq_true rfl)⟩ rfl (ks_Ta_comeUp hS ht (fun M hS => ?_))
      refine jj_iconst (v := 1) dd_TC_recover_30 rfl ?_
      refine jj_iret dd_TC_recover_31 rfl rfl ?_
      rw [if_pos h16] at hQ
      exact hQ _ hS
    · skip
      refine jj_iconst (v := 0) dd_TC_recover_19 rfl ?_
      refine jj_iret dd_TC_recover_20 rfl rfl ?_
      rw [if_neg h16] at hQ
      exact hQ _ hS
set_option maxRecDepth 20000 in
theorem ct_TC_recover0 {l : Launch} {M : mm_M} {Q : Option Value → mm_M → Prop} {g : Nat → Nat} {S : ss_} (hS : rp_ g M S) {x y z : Int32} (hx : ¬ vp_in x 3) (hQ : Q (some (.int 0)) M) : ct_ l yy_TC_recover bb_TC_recover 2 (some .boolean) 1 0 0 [.ref (g 0), .int x] M Q := by
  refine ct_of (by decide) (Nat.le_of_ble_eq_true rfl) (fun G A => ?_)
  refine jj_iload_n 1 dd_TC_recover_0 rfl ?_
  refine jj_callS [_] [] 0 0 dd_TC_recover_1 cs_TC_165 ci_TC_165 rfl (Nat.le_of_ble_eq_true rfl) ⟨(Nat.le_of_ble_eq_true rfl), (Nat.le_of_ble_eq_true rfl)⟩ ⟨(Nat.le_of_ble_eq_true rfl), (Nat.le_of_ble_eq_true rfl)⟩ rfl (ct_TC_isTablet (fun hb => ?_) (fun hb => ?_))
  · skip
    refine jj_if_eq (tgt := 19) dd_TC_recover_4 (by decide) (fun _ => ?_) (fun h => absurd h (by decide))
    refine jj_iconst (v := 0) dd_TC_recover_19 rfl ?_
    refine jj_iret dd_TC_recover_20 rfl rfl ?_
    exact hQ
  · skip
    exact absurd hb hx
set_option maxRecDepth 20000 in
theorem ct_TC_fail {l : Launch} {M : mm_M} {Q : Option Value → mm_M → Prop} {g : Nat → Nat} {S : ss_} (hS : rp_ g M S) {t : Nat} {x b : Int32} (ht : t < 3) (hb2 : b = 0 ∨ b = 1) (hQ : faC_ S t x b (fun r S' => ∀ M', rp_ g M' S' → Q (some (.int r)) M')) : ct_ l yy_TC_fail bb_TC_fail 4 (some .boolean) 1 0 0 [.ref (g 0), .int (nI t), .int x, .int b] M Q := by
  refine ct_of (by decide) (Nat.le_of_ble_eq_true rfl) (fun G A => ?_)
  unfold faC_ at hQ
  refine jj_iload_n 1 dd_TC_fail_0 rfl ?_
  refine jj_callS [_] [] 0 0 dd_TC_fail_1 cs_TC_165 ci_TC_165 rfl (Nat.le_of_ble_eq_true rfl) ⟨(Nat.le_of_ble_eq_true rfl), (Nat.le_of_ble_eq_true rfl)⟩ ⟨(Nat.le_of_ble_eq_true rfl), (Nat.le_of_ble_eq_true rfl)⟩ rfl (ct_TC_isTablet (fun hb => ?_) (fun hb => ?_))
  · skip
    exact absurd (vp_in_nI (n := t) (by omega) (by decide)) hb
  · skip
    refine jj_if_eq (tgt := 17) dd_TC_fail_4 (by decide) (fun h => absurd h (by decide)) (fun _ => ?_)
    refine jj_iload_n 2 dd_TC_fail_7 rfl ?_
    refine jj_if_lt (tgt := 17) dd_TC_fail_8 (by decide) (fun h8 => ?_) (fun h8 => ?_)
    · skip
      refine jj_iconst (v := 0) dd_TC_fail_17 rfl ?_
      refine jj_iret dd_TC_fail_18 rfl rfl ?_
      rw [if_pos h8] at hQ
      exact hQ _ hS
    · skip
      refine jj_iload_n 2 dd_TC_fail_11 rfl ?_
      refine jj_bipush (v := 20) dd_TC_fail_12 rfl ?_
      refine jj_icmp_le (tgt := 19) dd_TC_fail_14 (by decide) (fun h14 => ?_) (fun h14 => ?_)
      · skip
        refine jj_aload_n 0 dd_TC_fail_19 rfl ?_
        refine jj_tc2 hS dd_TC_fail_20 ff_TC_31 ?_
        refine jj_iload_n 1 dd_TC_fail_23 rfl ?_
        refine jj_at2 (t) hS dd_TC_fail_24 (by omega) rfl ?_
        refine jj_iload_n 2 dd_TC_fail_25 rfl ?_
        refine jj_iload_n 3 dd_TC_fail_26 rfl ?_
        refine jj_callV (ci := 2) [_, _] [] 0 0 dd_TC_fail_27 cs_TC_171 ci_TC_171 (hS.1.1 _ _ (ok_t (by omega))) ⟨by decide, rfl⟩ rfl (Nat.le_of_ble_eq_true rfl) ⟨(Nat.le_of_ble_eq_true rfl), (Nat.le_of_ble_eq_true rfl)⟩ ⟨(Nat.le_of_ble_eq_true rfl), (Nat.le_of_ble_eq_true rfl)⟩ rfl (ks_Ta_failAt hS ht hb2 (fun M hS => ?_))
        refine jj_iconst (v := 1) dd_TC_fail_30 rfl ?_
        refine jj_iret dd_TC_fail_31 rfl rfl ?_
        rw [if_neg h8, if_pos h14] at hQ
        exact hQ _ hS
      · skip
        refine jj_iconst (v := 0) dd_TC_fail_17 rfl ?_
        refine jj_iret dd_TC_fail_18 rfl rfl ?_
        rw [if_neg h8, if_neg h14] at hQ
        exact hQ _ hS
set_option maxRecDepth 20000 in
theorem ct_TC_fail0 {l : Launch} {M : mm_M} {Q : Option Value → mm_M → Prop} {g : Nat → Nat} {S : ss_} (hS : rp_ g M S) {x y z : Int32} (hx : ¬ vp_in x 3) (hQ : Q (some (.int 0)) M) : ct_ l yy_TC_fail bb_TC_fail 4 (some .boolean) 1 0 0 [.ref (g 0), .int x, .int y, .int z] M Q := by
  refine ct_of (by decide) (Nat.le_of_ble_eq_true rfl) (fun G A => ?_)
  refine jj_iload_n 1 dd_TC_fail_0 rfl ?_
  refine jj_callS [_] [] 0 0 dd_TC_fail_1 cs_TC_165 ci_TC_165 rfl (Nat.le_of_ble_eq_true rfl) ⟨(Nat.le_of_ble_eq_true rfl), (Nat.le_of_ble_eq_true rfl)⟩ ⟨(Nat.le_of_ble_eq_true rfl), (Nat.le_of_ble_eq_true rfl)⟩ rfl (ct_TC_isTablet (fun hb => ?_) (fun hb => ?_))
  · skip
    refine jj_if_eq (tgt := 17) dd_TC_fail_4 (by decide) (fun _ => ?_) (fun h => absurd h (by decide))
    refine jj_iconst (v := 0) dd_TC_fail_17 rfl ?_
    refine jj_iret dd_TC_fail_18 rfl rfl ?_
    exact hQ
  · skip
    exact absurd hb hx
set_option maxRecDepth 20000 in
theorem ct_TC_failOracle {l : Launch} {M : mm_M} {Q : Option Value → mm_M → Prop} {g : Nat → Nat} {S : ss_} (hS : rp_ g M S) (hQ : ∀ M', rp_ g M' (uf_ S.1 1 0 (S.1 1 1 + 1), S.2) → Q (some (.int (S.1 1 1 + 1))) M') : ct_ l yy_TC_failOracle bb_TC_failOracle 1 (some .int) 1 0 0 [.ref (g 0)] M Q := by
  refine ct_of (by decide) (Nat.le_of_ble_eq_true rfl) (fun G A => ?_)
  refine jj_aload_n 0 dd_TC_failOracle_0 rfl ?_
  refine jj_tc1 hS dd_TC_failOracle_1 ff_TC_25 ?_
  refine jj_callV (ci := 1) [] [] 0 0 dd_TC_failOracle_4 cs_TC_175 ci_TC_175 (hS.1.1 _ _ rfl) ⟨by decide, rfl⟩ rfl (Nat.le_of_ble_eq_true rfl) ⟨(Nat.le_of_ble_eq_true rfl), (Nat.le_of_ble_eq_true rfl)⟩ ⟨(Nat.le_of_ble_eq_true rfl), (Nat.le_of_ble_eq_true rfl)⟩ rfl (ks_Or_restart hS (fun M hS => ?_))
  refine jj_iret dd_TC_failOracle_7 rfl rfl ?_
  exact hQ _ hS
set_option maxRecDepth 20000 in
theorem ct_TC_oracle {l : Launch} {M : mm_M} {Q : Option Value → mm_M → Prop} {g : Nat → Nat} {S : ss_} (hS : rp_ g M S) {x : Int32} (hQ : Q (some (.int (orC_ S.1 x))) M) : ct_ l yy_TC_oracle bb_TC_oracle 2 (some .int) 0 0 0 [.ref (g 0), .int x] M Q := by
  refine ct_of (by decide) (Nat.le_of_ble_eq_true rfl) (fun G A => ?_)
  unfold orC_ at hQ
  refine jj_iload_n 1 dd_TC_oracle_0 rfl ?_
  refine mm_sw3 (x := x) (fun h1 => ?_) (fun h1 => ?_) (fun h1 => ?_) (fun h1 => ?_)
  · skip
    refine jj_tableOut (tgt := 49) dd_TC_oracle_1 h1 (by decide) ?_
    refine jj_iconst (v := (-1)) dd_TC_oracle_49 rfl ?_
    refine jj_iret dd_TC_oracle_50 rfl rfl ?_
    rw [if_neg (mm_out h1 (by decide) (by decide)), if_neg (mm_out h1 (by decide) (by decide)), if_neg (mm_out h1 (by decide) (by decide))] at hQ
    exact hQ
  · skip
    subst h1
    refine jj_tableIn (tgt := 28) dd_TC_oracle_1 (by decide) (by decide) rfl (by decide) ?_
    refine jj_aload_n 0 dd_TC_oracle_28 rfl ?_
    refine jj_tc1 hS dd_TC_oracle_29 ff_TC_25 ?_
    refine jj_gS hS dd_TC_oracle_32 ff_TC_208 rfl (fun _ => rfl) ?_
    refine jj_iret dd_TC_oracle_35 rfl rfl ?_
    exact hQ
  · skip
    subst h1
    refine jj_tableIn (tgt := 36) dd_TC_oracle_1 (by decide) (by decide) rfl (by decide) ?_
    refine jj_aload_n 0 dd_TC_oracle_36 rfl ?_
    refine jj_tc1 hS dd_TC_oracle_37 ff_TC_25 ?_
    refine jj_gS hS dd_TC_oracle_40 ff_TC_211 rfl (fun _ => rfl) ?_
    refine jj_iret dd_TC_oracle_43 rfl rfl ?_
    exact hQ
  · skip
    subst h1
    refine jj_tableIn (tgt := 44) dd_TC_oracle_1 (by decide) (by decide) rfl (by decide) ?_
    refine jj_aload_n 0 dd_TC_oracle_44 rfl ?_
    refine jj_gS hS dd_TC_oracle_45 ff_TC_162 rfl (fun _ => rfl) ?_
    refine jj_iret dd_TC_oracle_48 rfl rfl ?_
    exact hQ
set_option maxRecDepth 20000 in
theorem ct_TC_tablet {l : Launch} {M : mm_M} {Q : Option Value → mm_M → Prop} {g : Nat → Nat} {S : ss_} (hS : rp_ g M S) {t : Nat} {x : Int32} (ht : t < 3) (hQ : Q (some (.int (taC_ S.1 t x))) M) : ct_ l yy_TC_tablet bb_TC_tablet 3 (some .int) 1 0 0 [.ref (g 0), .int (nI t), .int x] M Q := by
  refine ct_of (by decide) (Nat.le_of_ble_eq_true rfl) (fun G A => ?_)
  refine jj_iload_n 1 dd_TC_tablet_0 rfl ?_
  refine jj_callS [_] [] 0 0 dd_TC_tablet_1 cs_TC_165 ci_TC_165 rfl (Nat.le_of_ble_eq_true rfl) ⟨(Nat.le_of_ble_eq_true rfl), (Nat.le_of_ble_eq_true rfl)⟩ ⟨(Nat.le_of_ble_eq_true rfl), (Nat.le_of_ble_eq_true rfl)⟩ rfl (ct_TC_isTablet (fun hb => ?_) (fun hb => ?_))
  · skip
    exact absurd (vp_in_nI (n := t) (by omega) (by decide)) hb
  · skip
    refine jj_if_eq (tgt := 20) dd_TC_tablet_4 (by decide) (fun h => absurd h (by decide)) (fun _ => ?_)
    refine jj_aload_n 0 dd_TC_tablet_7 rfl ?_
    refine jj_tc2 hS dd_TC_tablet_8 ff_TC_31 ?_
    refine jj_iload_n 1 dd_TC_tablet_11 rfl ?_
    refine jj_at2 (t) hS dd_TC_tablet_12 (by omega) rfl ?_
    refine jj_iload_n 2 dd_TC_tablet_13 rfl ?_
    refine jj_callV (ci := 2) [_] [] 0 0 dd_TC_tablet_14 cs_TC_207 ci_TC_207 (hS.1.1 _ _ (ok_t (by omega))) ⟨by decide, rfl⟩ rfl (Nat.le_of_ble_eq_true rfl) ⟨(Nat.le_of_ble_eq_true rfl), (Nat.le_of_ble_eq_true rfl)⟩ ⟨(Nat.le_of_ble_eq_true rfl), (Nat.le_of_ble_eq_true rfl)⟩ rfl (ks_Ta_answer hS ht ?_)
    refine jj_goto (tgt := 21) dd_TC_tablet_17 (by decide) ?_
    refine jj_iret dd_TC_tablet_21 rfl rfl ?_
    exact hQ
set_option maxRecDepth 20000 in
theorem ct_TC_tablet0 {l : Launch} {M : mm_M} {Q : Option Value → mm_M → Prop} {g : Nat → Nat} {S : ss_} (hS : rp_ g M S) {x y z : Int32} (hx : ¬ vp_in x 3) (hQ : Q (some (.int (-1))) M) : ct_ l yy_TC_tablet bb_TC_tablet 3 (some .int) 1 0 0 [.ref (g 0), .int x, .int y] M Q := by
  refine ct_of (by decide) (Nat.le_of_ble_eq_true rfl) (fun G A => ?_)
  refine jj_iload_n 1 dd_TC_tablet_0 rfl ?_
  refine jj_callS [_] [] 0 0 dd_TC_tablet_1 cs_TC_165 ci_TC_165 rfl (Nat.le_of_ble_eq_true rfl) ⟨(Nat.le_of_ble_eq_true rfl), (Nat.le_of_ble_eq_true rfl)⟩ ⟨(Nat.le_of_ble_eq_true rfl), (Nat.le_of_ble_eq_true rfl)⟩ rfl (ct_TC_isTablet (fun hb => ?_) (fun hb => ?_))
  · skip
    refine jj_if_eq (tgt := 20) dd_TC_tablet_4 (by decide) (fun _ => ?_) (fun h => absurd h (by decide))
    refine jj_iconst (v := (-1)) dd_TC_tablet_20 rfl ?_
    refine jj_iret dd_TC_tablet_21 rfl rfl ?_
    exact hQ
  · skip
    exact absurd hb hx
set_option maxRecDepth 20000 in
theorem ct_TC_transaction {l : Launch} {M : mm_M} {Q : Option Value → mm_M → Prop} {g : Nat → Nat} {S : ss_} (hS : rp_ g M S) {c : Nat} {x : Int32} (hc : c < 4) (hQ : Q (some (.int (txa_ S.1 c x))) M) : ct_ l yy_TC_transaction bb_TC_transaction 3 (some .int) 2 0 0 [.ref (g 0), .int (nI c), .int x] M Q := by
  refine ct_of (by decide) (Nat.le_of_ble_eq_true rfl) (fun G A => ?_)
  refine jj_iload_n 1 dd_TC_transaction_0 rfl ?_
  refine jj_callS [_] [] 0 0 dd_TC_transaction_1 cs_TC_54 ci_TC_54 rfl (Nat.le_of_ble_eq_true rfl) ⟨(Nat.le_of_ble_eq_true rfl), (Nat.le_of_ble_eq_true rfl)⟩ ⟨(Nat.le_of_ble_eq_true rfl), (Nat.le_of_ble_eq_true rfl)⟩ rfl (ct_TC_isClient (fun hb => ?_) (fun hb => ?_))
  · skip
    exact absurd (vp_in_nI (n := c) (by omega) (by decide)) hb
  · skip
    refine jj_if_eq (tgt := 20) dd_TC_transaction_4 (by decide) (fun h => absurd h (by decide)) (fun _ => ?_)
    refine jj_aload_n 0 dd_TC_transaction_7 rfl ?_
    refine jj_tc4 hS dd_TC_transaction_8 ff_TC_47 ?_
    refine jj_iload_n 1 dd_TC_transaction_11 rfl ?_
    refine jj_at4 (c) hS dd_TC_transaction_12 (by omega) rfl ?_
    refine jj_iload_n 2 dd_TC_transaction_13 rfl ?_
    refine jj_callV (ci := 6) [_] [] 0 0 dd_TC_transaction_14 cs_TC_185 ci_TC_185 (hS.1.1 _ _ (ok_x (by omega))) ⟨by decide, rfl⟩ rfl (Nat.le_of_ble_eq_true rfl) ⟨(Nat.le_of_ble_eq_true rfl), (Nat.le_of_ble_eq_true rfl)⟩ ⟨(Nat.le_of_ble_eq_true rfl), (Nat.le_of_ble_eq_true rfl)⟩ rfl (ks_Tr_answer hS hc ?_)
    refine jj_goto (tgt := 21) dd_TC_transaction_17 (by decide) ?_
    refine jj_iret dd_TC_transaction_21 rfl rfl ?_
    exact hQ
set_option maxRecDepth 20000 in
theorem ct_TC_transaction0 {l : Launch} {M : mm_M} {Q : Option Value → mm_M → Prop} {g : Nat → Nat} {S : ss_} (hS : rp_ g M S) {x y z : Int32} (hx : ¬ vp_in x 4) (hQ : Q (some (.int (-1))) M) : ct_ l yy_TC_transaction bb_TC_transaction 3 (some .int) 2 0 0 [.ref (g 0), .int x, .int y] M Q := by
  refine ct_of (by decide) (Nat.le_of_ble_eq_true rfl) (fun G A => ?_)
  refine jj_iload_n 1 dd_TC_transaction_0 rfl ?_
  refine jj_callS [_] [] 0 0 dd_TC_transaction_1 cs_TC_54 ci_TC_54 rfl (Nat.le_of_ble_eq_true rfl) ⟨(Nat.le_of_ble_eq_true rfl), (Nat.le_of_ble_eq_true rfl)⟩ ⟨(Nat.le_of_ble_eq_true rfl), (Nat.le_of_ble_eq_true rfl)⟩ rfl (ct_TC_isClient (fun hb => ?_) (fun hb => ?_))
  · skip
    refine jj_if_eq (tgt := 20) dd_TC_transaction_4 (by decide) (fun _ => ?_) (fun h => absurd h (by decide))
    refine jj_iconst (v := (-1)) dd_TC_transaction_20 rfl ?_
    refine jj_iret dd_TC_transaction_21 rfl rfl ?_
    exact hQ
  · skip
    exact absurd hb hx
set_option maxRecDepth 20000 in
theorem ct_TC_lock {l : Launch} {M : mm_M} {Q : Option Value → mm_M → Prop} {g : Nat → Nat} {S : ss_} (hS : rp_ g M S) {i : Nat} {x : Int32} (hi : i < 12) (hci : ci_ S) (hQ : if S.1 (10 + i / 4) 0 = 0 then Q (some (.int (-1))) M else Q (some (.int (lkR_ S.1 x (S.2.1 i)))) M) : ct_ l yy_TC_lock bb_TC_lock 4 (some .int) 1 0 0 [.ref (g 0), .int (nI i), .int x] M Q := by
  refine ct_of (by decide) (Nat.le_of_ble_eq_true rfl) (fun G A => ?_)
  cases hL : S.2.1 i with
  | none =>
    rw [hL] at hQ
    simp only [lkR_] at hQ
    refine jj_iload_n 1 dd_TC_lock_0 rfl ?_
    refine jj_callS [_] [] 0 0 dd_TC_lock_1 cs_TC_157 ci_TC_157 rfl (Nat.le_of_ble_eq_true rfl) ⟨(Nat.le_of_ble_eq_true rfl), (Nat.le_of_ble_eq_true rfl)⟩ ⟨(Nat.le_of_ble_eq_true rfl), (Nat.le_of_ble_eq_true rfl)⟩ rfl (ct_TC_isCell (fun hb => ?_) (fun hb => ?_))
    · skip
      exact absurd (vp_in_nI (n := i) (by omega) (by decide)) hb
    · skip
      refine jj_if_eq (tgt := 22) dd_TC_lock_4 (by decide) (fun h => absurd h (by decide)) (fun _ => ?_)
      refine jj_aload_n 0 dd_TC_lock_7 rfl ?_
      refine jj_tc3 hS dd_TC_lock_8 ff_TC_38 ?_
      refine jj_iload_n 1 dd_TC_lock_11 rfl ?_
      refine jj_at3 (i) hS dd_TC_lock_12 (by omega) rfl ?_
      refine jj_home hS dd_TC_lock_13 ff_TC_95 (by omega) ?_
      refine jj_gS hS dd_TC_lock_16 ff_TC_99 (ok_t (by omega)) (fun _ => rfl) ?_
      refine jj_if_ne (tgt := 24) dd_TC_lock_19 (by decide) (fun h19 => ?_) (fun h19 => ?_)
      · skip
        refine jj_aload_n 0 dd_TC_lock_24 rfl ?_
        refine jj_tc3 hS dd_TC_lock_25 ff_TC_38 ?_
        refine jj_iload_n 1 dd_TC_lock_28 rfl ?_
        refine jj_at3 (i) hS dd_TC_lock_29 (by omega) rfl ?_
        refine jj_lk0 hS dd_TC_lock_30 ff_TC_188 (by omega) hL ?_
        refine jj_astore_nN (lv' := [(3, .null), (0, .ref (g 0)), (1, .int (nI (i))), (2, .int (x))]) dd_TC_lock_33 (Nat.le_of_ble_eq_true rfl) rfl ?_
        refine jj_aload_nN 0 dd_TC_lock_34 rfl ?_
        refine jj_ifnonnullN dd_TC_lock_35 ?_
        refine jj_iconst (v := (-1)) dd_TC_lock_38 rfl ?_
        refine jj_iret dd_TC_lock_39 rfl rfl ?_
        rw [if_neg h19] at hQ
        exact hQ
      · skip
        refine jj_iconst (v := (-1)) dd_TC_lock_22 rfl ?_
        refine jj_iret dd_TC_lock_23 rfl rfl ?_
        rw [if_pos h19] at hQ
        exact hQ
  | some f =>
    rw [hL] at hQ
    simp only [lkR_] at hQ
    obtain ⟨_, _, hc2, hc24⟩ := hci.2.2 i f hi hL
    refine jj_iload_n 1 dd_TC_lock_0 rfl ?_
    refine jj_callS [_] [] 0 0 dd_TC_lock_1 cs_TC_157 ci_TC_157 rfl (Nat.le_of_ble_eq_true rfl) ⟨(Nat.le_of_ble_eq_true rfl), (Nat.le_of_ble_eq_true rfl)⟩ ⟨(Nat.le_of_ble_eq_true rfl), (Nat.le_of_ble_eq_true rfl)⟩ rfl (ct_TC_isCell (fun hb => ?_) (fun hb => ?_))
    · skip
      exact absurd (vp_in_nI (n := i) (by omega) (by decide)) hb
    · skip
      refine jj_if_eq (tgt := 22) dd_TC_lock_4 (by decide) (fun h => absurd h (by decide)) (fun _ => ?_)
      refine jj_aload_n 0 dd_TC_lock_7 rfl ?_
      refine jj_tc3 hS dd_TC_lock_8 ff_TC_38 ?_
      refine jj_iload_n 1 dd_TC_lock_11 rfl ?_
      refine jj_at3 (i) hS dd_TC_lock_12 (by omega) rfl ?_
      refine jj_home hS dd_TC_lock_13 ff_TC_95 (by omega) ?_
      refine jj_gS hS dd_TC_lock_16 ff_TC_99 (ok_t (by omega)) (fun _ => rfl) ?_
      refine jj_if_ne (tgt := 24) dd_TC_lock_19 (by decide) (fun h19 => ?_) (fun h19 => ?_)
      · skip
        refine jj_aload_n 0 dd_TC_lock_24 rfl ?_
        refine jj_tc3 hS dd_TC_lock_25 ff_TC_38 ?_
        refine jj_iload_n 1 dd_TC_lock_28 rfl ?_
        refine jj_at3 (i) hS dd_TC_lock_29 (by omega) rfl ?_
        refine jj_lk1 hS dd_TC_lock_30 ff_TC_188 (by omega) hL (fun a30 ka30 fa30 => ?_)
        refine jj_astore_n (lv' := [(3, .ref a30), (0, .ref (g 0)), (1, .int (nI (i))), (2, .int (x))]) dd_TC_lock_33 (Nat.le_of_ble_eq_true rfl) rfl ?_
        refine jj_aload_n 0 dd_TC_lock_34 rfl ?_
        refine jj_ifnonnull (tgt := 40) dd_TC_lock_35 (by decide) ?_
        refine jj_iload_n 3 dd_TC_lock_40 rfl ?_
        refine jj_iconst (v := 4) dd_TC_lock_41 rfl ?_
        refine jj_icmp_ne (tgt := 56) dd_TC_lock_42 (by decide) (fun h42 => ?_) (fun h42 => ?_)
        · skip
          refine jj_aload_n 0 dd_TC_lock_56 rfl ?_
          refine jj_iload_n 3 dd_TC_lock_57 rfl ?_
          refine jj_callV (ci := 4) [_] [] 0 0 dd_TC_lock_58 cs_TC_200 ci_TC_200 ka30 ⟨by decide, rfl⟩ rfl (Nat.le_of_ble_eq_true rfl) ⟨(Nat.le_of_ble_eq_true rfl), (Nat.le_of_ble_eq_true rfl)⟩ ⟨(Nat.le_of_ble_eq_true rfl), (Nat.le_of_ble_eq_true rfl)⟩ rfl (ct_Lo_answer ka30 ?_)
          rw [fa30 0 (by decide), fa30 1 (by decide), fa30 2 (by decide), fa30 3 (by decide), fa30 5 (by decide)]
          refine jj_iret dd_TC_lock_61 rfl rfl ?_
          rw [if_neg h19, if_neg h42] at hQ
          exact hQ
        · skip
          refine jj_aload_n 1 dd_TC_lock_45 rfl ?_
          refine jj_aload_n 0 dd_TC_lock_46 rfl ?_
          refine jj_callV (ci := 0) [.ref a30] [] 0 0 dd_TC_lock_47 cs_TC_192 ci_TC_192 (hS.1.1 _ _ rfl) ⟨by decide, rfl⟩ rfl (Nat.le_of_ble_eq_true rfl) ⟨(Nat.le_of_ble_eq_true rfl), (Nat.le_of_ble_eq_true rfl)⟩ ⟨(Nat.le_of_ble_eq_true rfl), (Nat.le_of_ble_eq_true rfl)⟩ rfl (ct_TC_isLoose hS ka30 fa30 hc24 hc2 ?_)
          refine jj_callS [_] [] 0 0 dd_TC_lock_50 cs_TC_196 ci_TC_196 rfl (Nat.le_of_ble_eq_true rfl) ⟨(Nat.le_of_ble_eq_true rfl), (Nat.le_of_ble_eq_true rfl)⟩ ⟨(Nat.le_of_ble_eq_true rfl), (Nat.le_of_ble_eq_true rfl)⟩ rfl (ct_TC_asNumber ?_)
          refine jj_goto (tgt := 61) dd_TC_lock_53 (by decide) ?_
          refine jj_iret dd_TC_lock_61 rfl rfl ?_
          rw [if_neg h19, if_pos h42] at hQ
          exact hQ
      · skip
        refine jj_iconst (v := (-1)) dd_TC_lock_22 rfl ?_
        refine jj_iret dd_TC_lock_23 rfl rfl ?_
        rw [if_pos h19] at hQ
        exact hQ
set_option maxRecDepth 20000 in
theorem ct_TC_lock0 {l : Launch} {M : mm_M} {Q : Option Value → mm_M → Prop} {g : Nat → Nat} {S : ss_} (hS : rp_ g M S) {x y z : Int32} (hx : ¬ vp_in x 12) (hQ : Q (some (.int (-1))) M) : ct_ l yy_TC_lock bb_TC_lock 4 (some .int) 1 0 0 [.ref (g 0), .int x, .int y] M Q := by
  refine ct_of (by decide) (Nat.le_of_ble_eq_true rfl) (fun G A => ?_)
  refine jj_iload_n 1 dd_TC_lock_0 rfl ?_
  refine jj_callS [_] [] 0 0 dd_TC_lock_1 cs_TC_157 ci_TC_157 rfl (Nat.le_of_ble_eq_true rfl) ⟨(Nat.le_of_ble_eq_true rfl), (Nat.le_of_ble_eq_true rfl)⟩ ⟨(Nat.le_of_ble_eq_true rfl), (Nat.le_of_ble_eq_true rfl)⟩ rfl (ct_TC_isCell (fun hb => ?_) (fun hb => ?_))
  · skip
    refine jj_if_eq (tgt := 22) dd_TC_lock_4 (by decide) (fun _ => ?_) (fun h => absurd h (by decide))
    refine jj_iconst (v := (-1)) dd_TC_lock_22 rfl ?_
    refine jj_iret dd_TC_lock_23 rfl rfl ?_
    exact hQ
  · skip
    exact absurd hb hx
set_option maxRecDepth 20000 in
theorem ct_TC_record {l : Launch} {M : mm_M} {Q : Option Value → mm_M → Prop} {g : Nat → Nat} {S : ss_} (hS : rp_ g M S) {i m : Nat} {x : Int32} (hi : i < 12) (hm : m < 2 ^ 31) (hQ : if S.1 (10 + i / 4) 0 = 0 then Q (some (.int (-1))) M else Q (some (.int (vvR_ x (vat_ m (S.2.2 i))))) M) : ct_ l yy_TC_record bb_TC_record 5 (some .int) 1 0 0 [.ref (g 0), .int (nI i), .int (nI m), .int x] M Q := by
  refine ct_of (by decide) (Nat.le_of_ble_eq_true rfl) (fun G A => ?_)
  refine jj_iload_n 1 dd_TC_record_0 rfl ?_
  refine jj_callS [_] [] 0 0 dd_TC_record_1 cs_TC_157 ci_TC_157 rfl (Nat.le_of_ble_eq_true rfl) ⟨(Nat.le_of_ble_eq_true rfl), (Nat.le_of_ble_eq_true rfl)⟩ ⟨(Nat.le_of_ble_eq_true rfl), (Nat.le_of_ble_eq_true rfl)⟩ rfl (ct_TC_isCell (fun hb => ?_) (fun hb => ?_))
  · skip
    exact absurd (vp_in_nI (n := i) (by omega) (by decide)) hb
  · skip
    refine jj_if_eq (tgt := 22) dd_TC_record_4 (by decide) (fun h => absurd h (by decide)) (fun _ => ?_)
    refine jj_aload_n 0 dd_TC_record_7 rfl ?_
    refine jj_tc3 hS dd_TC_record_8 ff_TC_38 ?_
    refine jj_iload_n 1 dd_TC_record_11 rfl ?_
    refine jj_at3 (i) hS dd_TC_record_12 (by omega) rfl ?_
    refine jj_home hS dd_TC_record_13 ff_TC_95 (by omega) ?_
    refine jj_gS hS dd_TC_record_16 ff_TC_99 (ok_t (by omega)) (fun _ => rfl) ?_
    refine jj_if_ne (tgt := 24) dd_TC_record_19 (by decide) (fun h19 => ?_) (fun h19 => ?_)
    · skip
      refine jj_aload_n 0 dd_TC_record_24 rfl ?_
      refine jj_tc3 hS dd_TC_record_25 ff_TC_38 ?_
      refine jj_iload_n 1 dd_TC_record_28 rfl ?_
      refine jj_at3 (i) hS dd_TC_record_29 (by omega) rfl ?_
      refine jj_iload_n 2 dd_TC_record_30 rfl ?_
      rw [if_neg h19] at hQ
      refine jj_callV (ci := 3) [_] [] 0 0 dd_TC_record_31 cs_TC_203 ci_TC_203 (hS.1.1 _ _ (ok_c (by omega))) ⟨by decide, rfl⟩ rfl (Nat.le_of_ble_eq_true rfl) ⟨(Nat.le_of_ble_eq_true rfl), (Nat.le_of_ble_eq_true rfl)⟩ ⟨(Nat.le_of_ble_eq_true rfl), (Nat.le_of_ble_eq_true rfl)⟩ rfl (ct_Ce_versionAt hS hi hm ⟨fun hv => ?_, fun b v hv hbk hbv => ?_⟩)
      · skip
        rw [hv] at hQ
        simp only [vvR_] at hQ
        refine jj_astoreN (lv' := [(4, .null), (0, .ref (g 0)), (1, .int (nI (i))), (2, .int (nI (m))), (3, .int (x))]) dd_TC_record_34 (Nat.le_of_ble_eq_true rfl) rfl ?_
        refine jj_aloadN 0 dd_TC_record_36 rfl ?_
        refine jj_ifnonnullN dd_TC_record_38 ?_
        refine jj_iconst (v := (-1)) dd_TC_record_41 rfl ?_
        refine jj_goto (tgt := 51) dd_TC_record_42 (by decide) ?_
        refine jj_iret dd_TC_record_51 rfl rfl ?_
        exact hQ
      · skip
        rw [hv] at hQ
        simp only [vvR_, ← hbv] at hQ
        refine jj_astore (lv' := [(4, .ref b), (0, .ref (g 0)), (1, .int (nI (i))), (2, .int (nI (m))), (3, .int (x))]) dd_TC_record_34 (Nat.le_of_ble_eq_true rfl) rfl ?_
        refine jj_aload 0 dd_TC_record_36 rfl ?_
        refine jj_ifnonnull (tgt := 45) dd_TC_record_38 (by decide) ?_
        refine jj_aload 0 dd_TC_record_45 rfl ?_
        refine jj_iload_n 4 dd_TC_record_47 rfl ?_
        refine jj_callV (ci := 5) [_] [] 0 0 dd_TC_record_48 cs_TC_206 ci_TC_206 hbk ⟨by decide, rfl⟩ rfl (Nat.le_of_ble_eq_true rfl) ⟨(Nat.le_of_ble_eq_true rfl), (Nat.le_of_ble_eq_true rfl)⟩ ⟨(Nat.le_of_ble_eq_true rfl), (Nat.le_of_ble_eq_true rfl)⟩ rfl (ct_Ve_answer hbk ?_)
        refine jj_iret dd_TC_record_51 rfl rfl ?_
        exact hQ
    · skip
      refine jj_iconst (v := (-1)) dd_TC_record_22 rfl ?_
      refine jj_iret dd_TC_record_23 rfl rfl ?_
      rw [if_pos h19] at hQ
      exact hQ
set_option maxRecDepth 20000 in
theorem ct_TC_record1 {l : Launch} {M : mm_M} {Q : Option Value → mm_M → Prop} {g : Nat → Nat} {S : ss_} (hS : rp_ g M S) {i : Nat} {k x : Int32} (hi : i < 12) (hk : k < 0) (hQ : Q (some (.int (-1))) M) : ct_ l yy_TC_record bb_TC_record 5 (some .int) 1 0 0 [.ref (g 0), .int (nI i), .int k, .int x] M Q := by
  refine ct_of (by decide) (Nat.le_of_ble_eq_true rfl) (fun G A => ?_)
  refine jj_iload_n 1 dd_TC_record_0 rfl ?_
  refine jj_callS [_] [] 0 0 dd_TC_record_1 cs_TC_157 ci_TC_157 rfl (Nat.le_of_ble_eq_true rfl) ⟨(Nat.le_of_ble_eq_true rfl), (Nat.le_of_ble_eq_true rfl)⟩ ⟨(Nat.le_of_ble_eq_true rfl), (Nat.le_of_ble_eq_true rfl)⟩ rfl (ct_TC_isCell (fun hb => ?_) (fun hb => ?_))
  · skip
    exact absurd (vp_in_nI (n := i) (by omega) (by decide)) hb
  · skip
    refine jj_if_eq (tgt := 22) dd_TC_record_4 (by decide) (fun h => absurd h (by decide)) (fun _ => ?_)
    refine jj_aload_n 0 dd_TC_record_7 rfl ?_
    refine jj_tc3 hS dd_TC_record_8 ff_TC_38 ?_
    refine jj_iload_n 1 dd_TC_record_11 rfl ?_
    refine jj_at3 (i) hS dd_TC_record_12 (by omega) rfl ?_
    refine jj_home hS dd_TC_record_13 ff_TC_95 (by omega) ?_
    refine jj_gS hS dd_TC_record_16 ff_TC_99 (ok_t (by omega)) (fun _ => rfl) ?_
    refine jj_if_ne (tgt := 24) dd_TC_record_19 (by decide) (fun h19 => ?_) (fun h19 => ?_)
    · skip
      refine jj_aload_n 0 dd_TC_record_24 rfl ?_
      refine jj_tc3 hS dd_TC_record_25 ff_TC_38 ?_
      refine jj_iload_n 1 dd_TC_record_28 rfl ?_
      refine jj_at3 (i) hS dd_TC_record_29 (by omega) rfl ?_
      refine jj_iload_n 2 dd_TC_record_30 rfl ?_
      refine jj_callV (ci := 3) [_] [] 0 0 dd_TC_record_31 cs_TC_203 ci_TC_203 (hS.1.1 _ _ (ok_c (by omega))) ⟨by decide, rfl⟩ rfl (Nat.le_of_ble_eq_true rfl) ⟨(Nat.le_of_ble_eq_true rfl), (Nat.le_of_ble_eq_true rfl)⟩ ⟨(Nat.le_of_ble_eq_true rfl), (Nat.le_of_ble_eq_true rfl)⟩ rfl (ct_Ce_versionAt0 hS hi hk ?_)
      refine jj_astoreN (lv' := [(4, .null), (0, .ref (g 0)), (1, .int (nI (i))), (2, .int (k)), (3, .int (x))]) dd_TC_record_34 (Nat.le_of_ble_eq_true rfl) rfl ?_
      refine jj_aloadN 0 dd_TC_record_36 rfl ?_
      refine jj_ifnonnullN dd_TC_record_38 ?_
      refine jj_iconst (v := (-1)) dd_TC_record_41 rfl ?_
      refine jj_goto (tgt := 51) dd_TC_record_42 (by decide) ?_
      refine jj_iret dd_TC_record_51 rfl rfl ?_
      exact hQ
    · skip
      refine jj_iconst (v := (-1)) dd_TC_record_22 rfl ?_
      refine jj_iret dd_TC_record_23 rfl rfl ?_
      exact hQ
set_option maxRecDepth 20000 in
theorem ct_TC_record0 {l : Launch} {M : mm_M} {Q : Option Value → mm_M → Prop} {g : Nat → Nat} {S : ss_} (hS : rp_ g M S) {x y z : Int32} (hx : ¬ vp_in x 12) (hQ : Q (some (.int (-1))) M) : ct_ l yy_TC_record bb_TC_record 5 (some .int) 1 0 0 [.ref (g 0), .int x, .int y, .int z] M Q := by
  refine ct_of (by decide) (Nat.le_of_ble_eq_true rfl) (fun G A => ?_)
  refine jj_iload_n 1 dd_TC_record_0 rfl ?_
  refine jj_callS [_] [] 0 0 dd_TC_record_1 cs_TC_157 ci_TC_157 rfl (Nat.le_of_ble_eq_true rfl) ⟨(Nat.le_of_ble_eq_true rfl), (Nat.le_of_ble_eq_true rfl)⟩ ⟨(Nat.le_of_ble_eq_true rfl), (Nat.le_of_ble_eq_true rfl)⟩ rfl (ct_TC_isCell (fun hb => ?_) (fun hb => ?_))
  · skip
    refine jj_if_eq (tgt := 22) dd_TC_record_4 (by decide) (fun _ => ?_) (fun h => absurd h (by decide))
    refine jj_iconst (v := (-1)) dd_TC_record_22 rfl ?_
    refine jj_iret dd_TC_record_23 rfl rfl ?_
    exact hQ
  · skip
    exact absurd hb hx
set_option maxRecDepth 20000 in
theorem ct_TC_maySweep {l : Launch} {M : mm_M} {Q : Option Value → mm_M → Prop} {g : Nat → Nat} {S : ss_} (hS : rp_ g M S) {x : Int32} (hQ : Q (some (.int (msC_ S x))) M) : ct_ l yy_TC_maySweep bb_TC_maySweep 6 (some .boolean) 1 0 0 [.ref (g 0), .int x] M Q := by
  refine ct_of (by decide) (Nat.le_of_ble_eq_true rfl) (fun G A => ?_)
  unfold msC_ at hQ
  have lpx_ : ∀ (n k : Nat), k + n = 4 → Q (some (.int (msx_ S.1 x n k 1))) M → jj_ l yy_TC_maySweep bb_TC_maySweep 6 (some .boolean) G (mm_R 1 0 0) A (mm_ret Q) 0 0 117 [(4, .int (nI (k))), (3, .int (4)), (2, .ref (g 4)), (0, .ref (g 0)), (1, .int (x))] [] M := by
    intro n
    induction n with
    | zero =>
      intro k hk hQ
      have hk : k = 4 := by omega
      subst hk
      refine jj_iload 0 dd_TC_maySweep_117 rfl ?_
      refine jj_iload_n 1 dd_TC_maySweep_119 rfl ?_
      refine jj_icmp_ge (tgt := 162) dd_TC_maySweep_120 (by decide) (fun h120 => ?_) (fun h120 => ?_)
      · skip
        refine jj_iconst (v := 1) dd_TC_maySweep_162 rfl ?_
        refine jj_iret dd_TC_maySweep_163 rfl rfl ?_
        exact hQ
      · exact absurd (mm_rfl _) h120
    | succ n ih =>
      intro k hk hQ
      unfold msx_ at hQ
      refine jj_iload 0 dd_TC_maySweep_117 rfl ?_
      refine jj_iload_n 1 dd_TC_maySweep_119 rfl ?_
      refine jj_icmp_ge (tgt := 162) dd_TC_maySweep_120 (by decide) (fun h120 => ?_) (fun h120 => ?_)
      · exact absurd h120 (nI_ge (b := 4) (by omega) (by decide))
      · skip
        refine jj_aload_n 2 dd_TC_maySweep_123 rfl ?_
        refine jj_iload 0 dd_TC_maySweep_124 rfl ?_
        refine jj_at4 (k) hS dd_TC_maySweep_126 (by omega) rfl ?_
        refine jj_astore (lv' := [(5, .ref (g (40 + k))), (4, .int (nI (k))), (3, .int (4)), (2, .ref (g 4)), (0, .ref (g 0)), (1, .int (x))]) dd_TC_maySweep_127 (Nat.le_of_ble_eq_true rfl) rfl ?_
        refine jj_aload 0 dd_TC_maySweep_129 rfl ?_
        refine jj_gS hS dd_TC_maySweep_131 ff_TC_65 (ok_x (by omega)) (fun _ => rfl) ?_
        refine jj_if_eq (tgt := 156) dd_TC_maySweep_134 (by decide) (fun h134 => ?_) (fun h134 => ?_)
        · skip
          refine jj_iinc 1 (lv' := [(4, .int (nI (k + 1))), (5, .ref (g (40 + k))), (3, .int (4)), (2, .ref (g 4)), (0, .ref (g 0)), (1, .int (x))]) dd_TC_maySweep_156 rfl (nI_1 k) (Nat.le_of_ble_eq_true rfl) rfl ?_
          refine jj_goto (tgt := 117) dd_TC_maySweep_159 (by decide) ?_
          refine jj_sub [0, 2, 3, 4, 5] rfl ?_
          rw [if_pos h134] at hQ
          exact ih (k + 1) (by omega) hQ
        · skip
          refine jj_aload 0 dd_TC_maySweep_137 rfl ?_
          refine jj_gS hS dd_TC_maySweep_139 ff_TC_147 (ok_x (by omega)) (fun _ => rfl) ?_
          refine jj_if_eq (tgt := 156) dd_TC_maySweep_142 (by decide) (fun h142 => ?_) (fun h142 => ?_)
          · skip
            refine jj_iinc 1 (lv' := [(4, .int (nI (k + 1))), (5, .ref (g (40 + k))), (3, .int (4)), (2, .ref (g 4)), (0, .ref (g 0)), (1, .int (x))]) dd_TC_maySweep_156 rfl (nI_1 k) (Nat.le_of_ble_eq_true rfl) rfl ?_
            refine jj_goto (tgt := 117) dd_TC_maySweep_159 (by decide) ?_
            refine jj_sub [0, 2, 3, 4, 5] rfl ?_
            rw [if_neg h134, if_pos h142] at hQ
            exact ih (k + 1) (by omega) hQ
          · skip
            refine jj_aload 0 dd_TC_maySweep_145 rfl ?_
            refine jj_gS hS dd_TC_maySweep_147 ff_TC_81 (ok_x (by omega)) (fun _ => rfl) ?_
            refine jj_iload_n 5 dd_TC_maySweep_150 rfl ?_
            refine jj_icmp_ge (tgt := 156) dd_TC_maySweep_151 (by decide) (fun h151 => ?_) (fun h151 => ?_)
            · skip
              refine jj_iinc 1 (lv' := [(4, .int (nI (k + 1))), (5, .ref (g (40 + k))), (3, .int (4)), (2, .ref (g 4)), (0, .ref (g 0)), (1, .int (x))]) dd_TC_maySweep_156 rfl (nI_1 k) (Nat.le_of_ble_eq_true rfl) rfl ?_
              refine jj_goto (tgt := 117) dd_TC_maySweep_159 (by decide) ?_
              refine jj_sub [0, 2, 3, 4, 5] rfl ?_
              rw [if_neg h134, if_neg h142, if_pos h151] at hQ
              exact ih (k + 1) (by omega) hQ
            · skip
              refine jj_iconst (v := 0) dd_TC_maySweep_154 rfl ?_
              refine jj_iret dd_TC_maySweep_155 rfl rfl ?_
              rw [if_neg h134, if_neg h142, if_neg h151] at hQ
              exact hQ
  have lpc_ : ∀ (n k : Nat), k + n = 12 → Q (some (.int (msc_ S.2.1 x n k (msx_ S.1 x 4 0 1)))) M → jj_ l yy_TC_maySweep bb_TC_maySweep 6 (some .boolean) G (mm_R 1 0 0) A (mm_ret Q) 0 0 77 [(4, .int (nI (k))), (3, .int (12)), (2, .ref (g 3)), (0, .ref (g 0)), (1, .int (x))] [] M := by
    intro n
    induction n with
    | zero =>
      intro k hk hQ
      have hk : k = 12 := by omega
      subst hk
      refine jj_iload 0 dd_TC_maySweep_77 rfl ?_
      refine jj_iload_n 1 dd_TC_maySweep_79 rfl ?_
      refine jj_icmp_ge (tgt := 106) dd_TC_maySweep_80 (by decide) (fun h80 => ?_) (fun h80 => ?_)
      · skip
        refine jj_aload_n 3 dd_TC_maySweep_106 rfl ?_
        refine jj_tc4 hS dd_TC_maySweep_107 ff_TC_47 ?_
        refine jj_astore_n (lv' := [(2, .ref (g 4)), (4, .int (nI (12))), (3, .int (12)), (0, .ref (g 0)), (1, .int (x))]) dd_TC_maySweep_110 (Nat.le_of_ble_eq_true rfl) rfl ?_
        refine jj_aload_n 0 dd_TC_maySweep_111 rfl ?_
        refine jj_alen (v := 4) dd_TC_maySweep_112 (hS.1.1 4 _ rfl) (by decide) rfl ?_
        refine jj_istore_n (lv' := [(3, .int (4)), (2, .ref (g 4)), (4, .int (nI (12))), (0, .ref (g 0)), (1, .int (x))]) dd_TC_maySweep_113 (Nat.le_of_ble_eq_true rfl) rfl ?_
        refine jj_iconst (v := 0) dd_TC_maySweep_114 rfl ?_
        refine jj_istore (lv' := [(4, .int (0)), (3, .int (4)), (2, .ref (g 4)), (0, .ref (g 0)), (1, .int (x))]) dd_TC_maySweep_115 (Nat.le_of_ble_eq_true rfl) rfl ?_
        exact lpx_ 4 0 (by omega) hQ
      · exact absurd (mm_rfl _) h80
    | succ n ih =>
      intro k hk hQ
      unfold msc_ at hQ
      refine jj_iload 0 dd_TC_maySweep_77 rfl ?_
      refine jj_iload_n 1 dd_TC_maySweep_79 rfl ?_
      refine jj_icmp_ge (tgt := 106) dd_TC_maySweep_80 (by decide) (fun h80 => ?_) (fun h80 => ?_)
      · exact absurd h80 (nI_ge (b := 12) (by omega) (by decide))
      · skip
        refine jj_aload_n 2 dd_TC_maySweep_83 rfl ?_
        refine jj_iload 0 dd_TC_maySweep_84 rfl ?_
        refine jj_at3 (k) hS dd_TC_maySweep_86 (by omega) rfl ?_
        refine jj_astore (lv' := [(5, .ref (g (20 + k))), (4, .int (nI (k))), (3, .int (12)), (2, .ref (g 3)), (0, .ref (g 0)), (1, .int (x))]) dd_TC_maySweep_87 (Nat.le_of_ble_eq_true rfl) rfl ?_
        refine jj_aload 0 dd_TC_maySweep_89 rfl ?_
        refine jj_iload_n 5 dd_TC_maySweep_91 rfl ?_
        refine jj_callV (ci := 3) [_] [] 0 0 dd_TC_maySweep_92 cs_TC_112 ci_TC_112 (hS.1.1 _ _ (ok_c (by omega))) ⟨by decide, rfl⟩ rfl (Nat.le_of_ble_eq_true rfl) ⟨(Nat.le_of_ble_eq_true rfl), (Nat.le_of_ble_eq_true rfl)⟩ ⟨(Nat.le_of_ble_eq_true rfl), (Nat.le_of_ble_eq_true rfl)⟩ rfl (ct_Ce_isLockedBefore hS (by omega) ?_)
        refine jj_if_eq (tgt := 100) dd_TC_maySweep_95 (by decide) (fun h95 => ?_) (fun h95 => ?_)
        · skip
          refine jj_iinc 1 (lv' := [(4, .int (nI (k + 1))), (5, .ref (g (20 + k))), (3, .int (12)), (2, .ref (g 3)), (0, .ref (g 0)), (1, .int (x))]) dd_TC_maySweep_100 rfl (nI_1 k) (Nat.le_of_ble_eq_true rfl) rfl ?_
          refine jj_goto (tgt := 77) dd_TC_maySweep_103 (by decide) ?_
          refine jj_sub [0, 2, 3, 4, 5] rfl ?_
          rw [if_pos h95] at hQ
          exact ih (k + 1) (by omega) hQ
        · skip
          refine jj_iconst (v := 0) dd_TC_maySweep_98 rfl ?_
          refine jj_iret dd_TC_maySweep_99 rfl rfl ?_
          rw [if_neg h95] at hQ
          exact hQ
  have lpt_ : ∀ (n k : Nat), k + n = 3 → Q (some (.int (mst_ S.1 x n k (msc_ S.2.1 x 12 0 (msx_ S.1 x 4 0 1))))) M → jj_ l yy_TC_maySweep bb_TC_maySweep 6 (some .boolean) G (mm_R 1 0 0) A (mm_ret Q) 0 0 29 [(4, .int (nI (k))), (3, .int (3)), (2, .ref (g 2)), (0, .ref (g 0)), (1, .int (x))] [] M := by
    intro n
    induction n with
    | zero =>
      intro k hk hQ
      have hk : k = 3 := by omega
      subst hk
      refine jj_iload 0 dd_TC_maySweep_29 rfl ?_
      refine jj_iload_n 1 dd_TC_maySweep_31 rfl ?_
      refine jj_icmp_ge (tgt := 66) dd_TC_maySweep_32 (by decide) (fun h32 => ?_) (fun h32 => ?_)
      · skip
        refine jj_aload_n 3 dd_TC_maySweep_66 rfl ?_
        refine jj_tc3 hS dd_TC_maySweep_67 ff_TC_38 ?_
        refine jj_astore_n (lv' := [(2, .ref (g 3)), (4, .int (nI (3))), (3, .int (3)), (0, .ref (g 0)), (1, .int (x))]) dd_TC_maySweep_70 (Nat.le_of_ble_eq_true rfl) rfl ?_
        refine jj_aload_n 0 dd_TC_maySweep_71 rfl ?_
        refine jj_alen (v := 12) dd_TC_maySweep_72 (hS.1.1 3 _ rfl) (by decide) rfl ?_
        refine jj_istore_n (lv' := [(3, .int (12)), (2, .ref (g 3)), (4, .int (nI (3))), (0, .ref (g 0)), (1, .int (x))]) dd_TC_maySweep_73 (Nat.le_of_ble_eq_true rfl) rfl ?_
        refine jj_iconst (v := 0) dd_TC_maySweep_74 rfl ?_
        refine jj_istore (lv' := [(4, .int (0)), (3, .int (12)), (2, .ref (g 3)), (0, .ref (g 0)), (1, .int (x))]) dd_TC_maySweep_75 (Nat.le_of_ble_eq_true rfl) rfl ?_
        exact lpc_ 12 0 (by omega) hQ
      · exact absurd (mm_rfl _) h32
    | succ n ih =>
      intro k hk hQ
      unfold mst_ at hQ
      refine jj_iload 0 dd_TC_maySweep_29 rfl ?_
      refine jj_iload_n 1 dd_TC_maySweep_31 rfl ?_
      refine jj_icmp_ge (tgt := 66) dd_TC_maySweep_32 (by decide) (fun h32 => ?_) (fun h32 => ?_)
      · exact absurd h32 (nI_ge (b := 3) (by omega) (by decide))
      · skip
        refine jj_aload_n 2 dd_TC_maySweep_35 rfl ?_
        refine jj_iload 0 dd_TC_maySweep_36 rfl ?_
        refine jj_at2 (k) hS dd_TC_maySweep_38 (by omega) rfl ?_
        refine jj_astore (lv' := [(5, .ref (g (10 + k))), (4, .int (nI (k))), (3, .int (3)), (2, .ref (g 2)), (0, .ref (g 0)), (1, .int (x))]) dd_TC_maySweep_39 (Nat.le_of_ble_eq_true rfl) rfl ?_
        refine jj_aload 0 dd_TC_maySweep_41 rfl ?_
        refine jj_gS hS dd_TC_maySweep_43 ff_TC_99 (ok_t (by omega)) (fun _ => rfl) ?_
        refine jj_if_eq (tgt := 58) dd_TC_maySweep_46 (by decide) (fun h46 => ?_) (fun h46 => ?_)
        · skip
          refine jj_iconst (v := 0) dd_TC_maySweep_58 rfl ?_
          refine jj_iret dd_TC_maySweep_59 rfl rfl ?_
          rw [if_pos h46] at hQ
          exact hQ
        · skip
          refine jj_iload_n 5 dd_TC_maySweep_49 rfl ?_
          refine jj_aload 0 dd_TC_maySweep_50 rfl ?_
          refine jj_gS hS dd_TC_maySweep_52 ff_TC_104 (ok_t (by omega)) (fun _ => rfl) ?_
          refine jj_icmp_gt (tgt := 60) dd_TC_maySweep_55 (by decide) (fun h55 => ?_) (fun h55 => ?_)
          · skip
            refine jj_iinc 1 (lv' := [(4, .int (nI (k + 1))), (5, .ref (g (10 + k))), (3, .int (3)), (2, .ref (g 2)), (0, .ref (g 0)), (1, .int (x))]) dd_TC_maySweep_60 rfl (nI_1 k) (Nat.le_of_ble_eq_true rfl) rfl ?_
            refine jj_goto (tgt := 29) dd_TC_maySweep_63 (by decide) ?_
            refine jj_sub [0, 2, 3, 4, 5] rfl ?_
            rw [if_neg h46, if_pos h55] at hQ
            exact ih (k + 1) (by omega) hQ
          · skip
            refine jj_iconst (v := 0) dd_TC_maySweep_58 rfl ?_
            refine jj_iret dd_TC_maySweep_59 rfl rfl ?_
            rw [if_neg h46, if_neg h55] at hQ
            exact hQ
  refine jj_iload_n 1 dd_TC_maySweep_0 rfl ?_
  refine jj_iconst (v := 1) dd_TC_maySweep_1 rfl ?_
  refine jj_icmp_lt (tgt := 16) dd_TC_maySweep_2 (by decide) (fun h2 => ?_) (fun h2 => ?_)
  · skip
    refine jj_iconst (v := 0) dd_TC_maySweep_16 rfl ?_
    refine jj_iret dd_TC_maySweep_17 rfl rfl ?_
    rw [if_pos h2] at hQ
    exact hQ
  · skip
    refine jj_iload_n 1 dd_TC_maySweep_5 rfl ?_
    refine jj_aload_n 0 dd_TC_maySweep_6 rfl ?_
    refine jj_tc1 hS dd_TC_maySweep_7 ff_TC_25 ?_
    refine jj_gS hS dd_TC_maySweep_10 ff_TC_208 rfl (fun _ => rfl) ?_
    refine jj_icmp_le (tgt := 18) dd_TC_maySweep_13 (by decide) (fun h13 => ?_) (fun h13 => ?_)
    · skip
      refine jj_aload_n 0 dd_TC_maySweep_18 rfl ?_
      refine jj_tc2 hS dd_TC_maySweep_19 ff_TC_31 ?_
      refine jj_astore_n (lv' := [(2, .ref (g 2)), (0, .ref (g 0)), (1, .int (x))]) dd_TC_maySweep_22 (Nat.le_of_ble_eq_true rfl) rfl ?_
      refine jj_aload_n 0 dd_TC_maySweep_23 rfl ?_
      refine jj_alen (v := 3) dd_TC_maySweep_24 (hS.1.1 2 _ rfl) (by decide) rfl ?_
      refine jj_istore_n (lv' := [(3, .int (3)), (2, .ref (g 2)), (0, .ref (g 0)), (1, .int (x))]) dd_TC_maySweep_25 (Nat.le_of_ble_eq_true rfl) rfl ?_
      refine jj_iconst (v := 0) dd_TC_maySweep_26 rfl ?_
      refine jj_istore (lv' := [(4, .int (0)), (3, .int (3)), (2, .ref (g 2)), (0, .ref (g 0)), (1, .int (x))]) dd_TC_maySweep_27 (Nat.le_of_ble_eq_true rfl) rfl ?_
      rw [if_neg h2, if_pos h13] at hQ
      exact lpt_ 3 0 (by omega) hQ
    · skip
      refine jj_iconst (v := 0) dd_TC_maySweep_16 rfl ?_
      refine jj_iret dd_TC_maySweep_17 rfl rfl ?_
      rw [if_neg h2, if_neg h13] at hQ
      exact hQ
