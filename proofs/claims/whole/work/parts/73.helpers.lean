theorem dt_and {α : Type} {W : (α → Prop) → Prop} (h : dt_ W) {K K' : α → Prop} (h1 : W K) (h2 : W K') : W (fun x => K x ∧ K' x) := by
  rcases h with ⟨x, hx⟩ | hx
  · exact (hx _).mpr ⟨(hx K).mp h1, (hx K').mp h2⟩
  · exact hx _
theorem dt3_mono {V : (Nat → Int32 → ss_ → Prop) → Prop} (hd : dt_ (fun K : er_ → Prop => V (fun e r S1 => K (e, r, S1)))) {K K' : Nat → Int32 → ss_ → Prop} (h : V K) (hK : ∀ e r S1, K e r S1 → K' e r S1) : V K' := by
  rcases hd with ⟨x, hx⟩ | hx
  · exact (hx (fun x => K' x.1 x.2.1 x.2.2)).mpr (hK _ _ _ ((hx (fun x => K x.1 x.2.1 x.2.2)).mp h))
  · exact hx (fun x => K' x.1 x.2.1 x.2.2)
theorem dt3_and {V : (Nat → Int32 → ss_ → Prop) → Prop} (hd : dt_ (fun K : er_ → Prop => V (fun e r S1 => K (e, r, S1)))) {K K' : Nat → Int32 → ss_ → Prop} (h : V K) (h' : V K') : V (fun e r S1 => K e r S1 ∧ K' e r S1) := by
  rcases hd with ⟨x, hx⟩ | hx
  · exact (hx (fun x => K x.1 x.2.1 x.2.2 ∧ K' x.1 x.2.1 x.2.2)).mpr ⟨(hx (fun x => K x.1 x.2.1 x.2.2)).mp h, (hx (fun x => K' x.1 x.2.1 x.2.2)).mp h'⟩
  · exact hx (fun x => K x.1 x.2.1 x.2.2 ∧ K' x.1 x.2.1 x.2.2)
theorem dtv_mono {V : (Nat → ss_ → Prop) → Prop} (hd : dt_ (fun K : er_ → Prop => V (fun e S1 => K (e, 0, S1)))) {K K' : Nat → ss_ → Prop} (h : V K) (hK : ∀ e S1, K e S1 → K' e S1) : V K' := by
  rcases hd with ⟨x, hx⟩ | hx
  · exact (hx (fun x => K' x.1 x.2.2)).mpr (hK _ _ ((hx (fun x => K x.1 x.2.2)).mp h))
  · exact hx (fun x => K' x.1 x.2.2)
theorem dtv_and {V : (Nat → ss_ → Prop) → Prop} (hd : dt_ (fun K : er_ → Prop => V (fun e S1 => K (e, 0, S1)))) {K K' : Nat → ss_ → Prop} (h : V K) (h' : V K') : V (fun e S1 => K e S1 ∧ K' e S1) := by
  rcases hd with ⟨x, hx⟩ | hx
  · exact (hx (fun x => K x.1 x.2.2 ∧ K' x.1 x.2.2)).mpr ⟨(hx (fun x => K x.1 x.2.2)).mp h, (hx (fun x => K' x.1 x.2.2)).mp h'⟩
  · exact hx (fun x => K x.1 x.2.2 ∧ K' x.1 x.2.2)
theorem dt2_mono {V : (Int32 → ss_ → Prop) → Prop} (hd : dt_ (fun K : er_ → Prop => V (fun r S1 => K (0, r, S1)))) {K K' : Int32 → ss_ → Prop} (h : V K) (hK : ∀ r S1, K r S1 → K' r S1) : V K' := by
  rcases hd with ⟨x, hx⟩ | hx
  · exact (hx (fun x => K' x.2.1 x.2.2)).mpr (hK _ _ ((hx (fun x => K x.2.1 x.2.2)).mp h))
  · exact hx (fun x => K' x.2.1 x.2.2)
abbrev hq_ (cd : Nat → Int32) (g : Nat → Nat) (Q : Option Value → mm_M → Prop) (e : Nat) (r : Int32) (M : mm_M) : Prop := (e = 0 → Q (some (.int 0)) (mm_si M (g 100) 0 r)) ∧ (¬ e = 0 → Q (some (.int (cd e))) M)
abbrev hv_ (cd : Nat → Int32) (Q : Option Value → mm_M → Prop) (e : Nat) (M : mm_M) : Prop := (e = 0 → Q (some (.int 0)) M) ∧ (¬ e = 0 → Q (some (.int (cd e))) M)
set_option maxRecDepth 20000 in
theorem cw_La_begin {l : Launch} {M : mm_M} {Q : Option Value → mm_M → Prop} (hfl : l.flags = pinnedFlags ++ [noTraceFlag]) {g : Nat → Nat} {S : ss_} (hS : rp_ g M S) {c : Nat} (hc : c < 4) (hQ : beC_ S c (fun e r S1 => (e = 0 ∨ e = 1 ∨ e = 2) ∧ ∀ M1, rp_ g M1 S1 → hq_ cdn_ g Q e r M1)) : cw_ l yy_La_begin bb_La_begin 4 (some .int) hh_La_begin 7 1 6 [.ref (g 0), .int (nI c), .ref (g 100)] M Q := by
  refine cw_of (by decide) (Nat.le_of_ble_eq_true rfl) (fun G A => ?_)
  refine jj_aload_n 2 dd_La_begin_0 rfl ?_
  refine jj_iconst (v := 0) dd_La_begin_1 rfl ?_
  refine jj_aload_n 0 dd_La_begin_2 rfl ?_
  refine jj_iload_n 1 dd_La_begin_3 rfl ?_
  refine jj_callC (ci := 0) [0, 1] [_] [.int 0, .ref (g 100)] 0 0 dd_La_begin_4 cs_La_7 lk_La_7 ci_La_7 (hS.1.1 0 _ rfl) ⟨by decide, rfl⟩ rfl (Nat.le_of_ble_eq_true rfl) ⟨(Nat.le_of_ble_eq_true rfl), (Nat.le_of_ble_eq_true rfl)⟩ ⟨(Nat.le_of_ble_eq_true rfl), (Nat.le_of_ble_eq_true rfl)⟩ rfl cww_La_begin ⟨⟨by decide, by decide, by decide, by decide, cl_La_13⟩, ⟨⟨by decide, by decide, by decide, by decide, cl_La_15⟩, trivial⟩⟩ (cx_TC_begin hfl hS hc ?_)
  refine dt3_mono dt_be hQ (fun e r S1 hx M1 hS1 => ?_)
  obtain ⟨he, hx⟩ := hx
  have hx := hx M1 hS1
  rcases he with he | he | he
  · have he : e = 0 := he
    subst he
    show jj_ l _ _ _ _ G _ A _ 0 0 7 _ [.int r, .int 0, .ref (g 100)] M1
    refine jj_i2l dd_La_begin_7 ?_
    refine jj_last dd_La_begin_8 (hS1.1.1 100 _ rfl) (vp_in_nI (n := 0) (by decide) (by decide)) ?_
    refine jj_goto (tgt := 18) dd_La_begin_9 (by decide) ?_
    refine jj_iconst (v := 0) dd_La_begin_18 rfl ?_
    refine jj_iret dd_La_begin_19 rfl rfl ?_
    exact hx.1 rfl
  · have he : e = 1 := he
    subst he
    intro a ha
    refine ⟨Nat.le_of_ble_eq_true rfl, 12, rfl, ?_⟩
    refine jj_astore_n dd_La_begin_12 (Nat.le_of_ble_eq_true rfl) rfl ?_
    refine jj_iconst (v := 1) dd_La_begin_13 rfl ?_
    refine jj_iret dd_La_begin_14 rfl rfl ?_
    have h2 := hx.2 (by decide)
    rw [show cdn_ 1 = 1 from by decide] at h2
    exact h2
  · have he : e = 2 := he
    subst he
    intro a ha
    refine ⟨Nat.le_of_ble_eq_true rfl, 15, rfl, ?_⟩
    refine jj_astore_n dd_La_begin_15 (Nat.le_of_ble_eq_true rfl) rfl ?_
    refine jj_iconst (v := 2) dd_La_begin_16 rfl ?_
    refine jj_iret dd_La_begin_17 rfl rfl ?_
    have h2 := hx.2 (by decide)
    rw [show cdn_ 2 = 2 from by decide] at h2
    exact h2
set_option maxRecDepth 20000 in
theorem cw_La_begin0 {l : Launch} {M : mm_M} {Q : Option Value → mm_M → Prop} (hfl : l.flags = pinnedFlags ++ [noTraceFlag]) {g : Nat → Nat} {S : ss_} (hS : rp_ g M S) {u : Int32} (hx : ¬ vp_in u 4) (hQ : Q (some (.int 1)) M) : cw_ l yy_La_begin bb_La_begin 4 (some .int) hh_La_begin 7 1 6 [.ref (g 0), .int u, .ref (g 100)] M Q := by
  refine cw_of (by decide) (Nat.le_of_ble_eq_true rfl) (fun G A => ?_)
  refine jj_aload_n 2 dd_La_begin_0 rfl ?_
  refine jj_iconst (v := 0) dd_La_begin_1 rfl ?_
  refine jj_aload_n 0 dd_La_begin_2 rfl ?_
  refine jj_iload_n 1 dd_La_begin_3 rfl ?_
  refine jj_callC (ci := 0) [0, 1] [_] [.int 0, .ref (g 100)] 0 0 dd_La_begin_4 cs_La_7 lk_La_7 ci_La_7 (hS.1.1 0 _ rfl) ⟨by decide, rfl⟩ rfl (Nat.le_of_ble_eq_true rfl) ⟨(Nat.le_of_ble_eq_true rfl), (Nat.le_of_ble_eq_true rfl)⟩ ⟨(Nat.le_of_ble_eq_true rfl), (Nat.le_of_ble_eq_true rfl)⟩ rfl cww_La_begin ⟨⟨by decide, by decide, by decide, by decide, cl_La_13⟩, ⟨⟨by decide, by decide, by decide, by decide, cl_La_15⟩, trivial⟩⟩ (cx_TC_begin0 hfl hS hx (fun a ha => ?_))
  refine ⟨Nat.le_of_ble_eq_true rfl, 12, rfl, ?_⟩
  refine jj_astore_n dd_La_begin_12 (Nat.le_of_ble_eq_true rfl) rfl ?_
  refine jj_iconst (v := 1) dd_La_begin_13 rfl ?_
  refine jj_iret dd_La_begin_14 rfl rfl ?_
  exact hQ
set_option maxRecDepth 20000 in
theorem cw_La_get {l : Launch} {M : mm_M} {Q : Option Value → mm_M → Prop} (hfl : l.flags = pinnedFlags ++ [noTraceFlag]) {g : Nat → Nat} {S : ss_} (hS : rp_ g M S) {c : Nat} (hc : c < 4) {i : Nat} (hi : i < 12) (hci : ci_ S) (hQ : gtC_ S c i (fun e r S1 => (e = 0 ∨ e = 1 ∨ e = 2 ∨ e = 3 ∨ e = 4) ∧ ∀ M1, rp_ g M1 S1 → hq_ cdn_ g Q e r M1)) : cw_ l yy_La_get bb_La_get 5 (some .int) hh_La_get 8 4 22 [.ref (g 0), .int (nI c), .int (nI i), .ref (g 100)] M Q := by
  refine cw_of (by decide) (Nat.le_of_ble_eq_true rfl) (fun G A => ?_)
  refine jj_aload_n 3 dd_La_get_0 rfl ?_
  refine jj_iconst (v := 0) dd_La_get_1 rfl ?_
  refine jj_aload_n 0 dd_La_get_2 rfl ?_
  refine jj_iload_n 1 dd_La_get_3 rfl ?_
  refine jj_iload_n 2 dd_La_get_4 rfl ?_
  refine jj_callC (ci := 0) [0, 1, 2, 3] [_, _] [.int 0, .ref (g 100)] 0 0 dd_La_get_5 cs_La_17 lk_La_17 ci_La_17 (hS.1.1 0 _ rfl) ⟨by decide, rfl⟩ rfl (Nat.le_of_ble_eq_true rfl) ⟨(Nat.le_of_ble_eq_true rfl), (Nat.le_of_ble_eq_true rfl)⟩ ⟨(Nat.le_of_ble_eq_true rfl), (Nat.le_of_ble_eq_true rfl)⟩ rfl cww_La_get ⟨⟨by decide, by decide, by decide, by decide, cl_La_13⟩, ⟨⟨by decide, by decide, by decide, by decide, cl_La_15⟩, ⟨⟨by decide, by decide, by decide, by decide, cl_La_21⟩, ⟨⟨by decide, by decide, by decide, by decide, cl_La_23⟩, trivial⟩⟩⟩⟩ (cx_TC_get hfl hS hc hi hci ?_)
  refine dt3_mono dt_gt hQ (fun e r S1 hx M1 hS1 => ?_)
  obtain ⟨he, hx⟩ := hx
  have hx := hx M1 hS1
  rcases he with he | he | he | he | he
  · have he : e = 0 := he
    subst he
    show jj_ l _ _ _ _ G _ A _ 0 0 8 _ [.int r, .int 0, .ref (g 100)] M1
    refine jj_i2l dd_La_get_8 ?_
    refine jj_last dd_La_get_9 (hS1.1.1 100 _ rfl) (vp_in_nI (n := 0) (by decide) (by decide)) ?_
    refine jj_goto (tgt := 29) dd_La_get_10 (by decide) ?_
    refine jj_iconst (v := 0) dd_La_get_29 rfl ?_
    refine jj_iret dd_La_get_30 rfl rfl ?_
    exact hx.1 rfl
  · have he : e = 1 := he
    subst he
    intro a ha
    refine ⟨Nat.le_of_ble_eq_true rfl, 13, rfl, ?_⟩
    refine jj_astore dd_La_get_13 (Nat.le_of_ble_eq_true rfl) rfl ?_
    refine jj_iconst (v := 1) dd_La_get_15 rfl ?_
    refine jj_iret dd_La_get_16 rfl rfl ?_
    have h2 := hx.2 (by decide)
    rw [show cdn_ 1 = 1 from by decide] at h2
    exact h2
  · have he : e = 2 := he
    subst he
    intro a ha
    refine ⟨Nat.le_of_ble_eq_true rfl, 17, rfl, ?_⟩
    refine jj_astore dd_La_get_17 (Nat.le_of_ble_eq_true rfl) rfl ?_
    refine jj_iconst (v := 2) dd_La_get_19 rfl ?_
    refine jj_iret dd_La_get_20 rfl rfl ?_
    have h2 := hx.2 (by decide)
    rw [show cdn_ 2 = 2 from by decide] at h2
    exact h2
  · have he : e = 3 := he
    subst he
    intro a ha
    refine ⟨Nat.le_of_ble_eq_true rfl, 21, rfl, ?_⟩
    refine jj_astore dd_La_get_21 (Nat.le_of_ble_eq_true rfl) rfl ?_
    refine jj_iconst (v := 3) dd_La_get_23 rfl ?_
    refine jj_iret dd_La_get_24 rfl rfl ?_
    have h2 := hx.2 (by decide)
    rw [show cdn_ 3 = 3 from by decide] at h2
    exact h2
  · have he : e = 4 := he
    subst he
    intro a ha
    refine ⟨Nat.le_of_ble_eq_true rfl, 25, rfl, ?_⟩
    refine jj_astore dd_La_get_25 (Nat.le_of_ble_eq_true rfl) rfl ?_
    refine jj_iconst (v := 4) dd_La_get_27 rfl ?_
    refine jj_iret dd_La_get_28 rfl rfl ?_
    have h2 := hx.2 (by decide)
    rw [show cdn_ 4 = 4 from by decide] at h2
    exact h2
set_option maxRecDepth 20000 in
theorem cw_La_get0 {l : Launch} {M : mm_M} {Q : Option Value → mm_M → Prop} (hfl : l.flags = pinnedFlags ++ [noTraceFlag]) {g : Nat → Nat} {S : ss_} (hS : rp_ g M S) {u v : Int32} (hx : ¬ vp_in u 4 ∨ ¬ vp_in v 12) (hQ : Q (some (.int 1)) M) : cw_ l yy_La_get bb_La_get 5 (some .int) hh_La_get 8 4 22 [.ref (g 0), .int u, .int v, .ref (g 100)] M Q := by
  refine cw_of (by decide) (Nat.le_of_ble_eq_true rfl) (fun G A => ?_)
  refine jj_aload_n 3 dd_La_get_0 rfl ?_
  refine jj_iconst (v := 0) dd_La_get_1 rfl ?_
  refine jj_aload_n 0 dd_La_get_2 rfl ?_
  refine jj_iload_n 1 dd_La_get_3 rfl ?_
  refine jj_iload_n 2 dd_La_get_4 rfl ?_
  refine jj_callC (ci := 0) [0, 1, 2, 3] [_, _] [.int 0, .ref (g 100)] 0 0 dd_La_get_5 cs_La_17 lk_La_17 ci_La_17 (hS.1.1 0 _ rfl) ⟨by decide, rfl⟩ rfl (Nat.le_of_ble_eq_true rfl) ⟨(Nat.le_of_ble_eq_true rfl), (Nat.le_of_ble_eq_true rfl)⟩ ⟨(Nat.le_of_ble_eq_true rfl), (Nat.le_of_ble_eq_true rfl)⟩ rfl cww_La_get ⟨⟨by decide, by decide, by decide, by decide, cl_La_13⟩, ⟨⟨by decide, by decide, by decide, by decide, cl_La_15⟩, ⟨⟨by decide, by decide, by decide, by decide, cl_La_21⟩, ⟨⟨by decide, by decide, by decide, by decide, cl_La_23⟩, trivial⟩⟩⟩⟩ (cx_TC_get0 hfl hS hx (fun a ha => ?_))
  refine ⟨Nat.le_of_ble_eq_true rfl, 13, rfl, ?_⟩
  refine jj_astore dd_La_get_13 (Nat.le_of_ble_eq_true rfl) rfl ?_
  refine jj_iconst (v := 1) dd_La_get_15 rfl ?_
  refine jj_iret dd_La_get_16 rfl rfl ?_
  exact hQ
set_option maxRecDepth 20000 in
theorem cw_La_set {l : Launch} {M : mm_M} {Q : Option Value → mm_M → Prop} (hfl : l.flags = pinnedFlags ++ [noTraceFlag]) {g : Nat → Nat} {S : ss_} (hS : rp_ g M S) {c : Nat} (hc : c < 4) {i : Nat} (hi : i < 12) {y : Int32} (hQ : seC_ S c i y (fun e S1 => (e = 0 ∨ e = 1 ∨ e = 2) ∧ ∀ M1, rp_ g M1 S1 → hv_ cdn_ Q e M1)) : cw_ l yy_La_set bb_La_set 5 (some .int) hh_La_set 8 1 6 [.ref (g 0), .int (nI c), .int (nI i), .int y] M Q := by
  refine cw_of (by decide) (Nat.le_of_ble_eq_true rfl) (fun G A => ?_)
  refine jj_aload_n 0 dd_La_set_0 rfl ?_
  refine jj_iload_n 1 dd_La_set_1 rfl ?_
  refine jj_iload_n 2 dd_La_set_2 rfl ?_
  refine jj_iload_n 3 dd_La_set_3 rfl ?_
  refine jj_callC (ci := 0) [0, 1] [_, _, _] [] 0 0 dd_La_set_4 cs_La_25 lk_La_25 ci_La_25 (hS.1.1 0 _ rfl) ⟨by decide, rfl⟩ rfl (Nat.le_of_ble_eq_true rfl) ⟨(Nat.le_of_ble_eq_true rfl), (Nat.le_of_ble_eq_true rfl)⟩ ⟨(Nat.le_of_ble_eq_true rfl), (Nat.le_of_ble_eq_true rfl)⟩ rfl cww_La_set ⟨⟨by decide, by decide, by decide, by decide, cl_La_13⟩, ⟨⟨by decide, by decide, by decide, by decide, cl_La_15⟩, trivial⟩⟩ (cx_TC_set hfl hS hc hi ?_)
  refine dtv_mono dt_se hQ (fun e S1 hx M1 hS1 => ?_)
  obtain ⟨he, hx⟩ := hx
  have hx := hx M1 hS1
  rcases he with he | he | he
  · have he : e = 0 := he
    subst he
    show jj_ l _ _ _ _ G _ A _ 0 0 7 _ [] M1
    refine jj_goto (tgt := 18) dd_La_set_7 (by decide) ?_
    refine jj_iconst (v := 0) dd_La_set_18 rfl ?_
    refine jj_iret dd_La_set_19 rfl rfl ?_
    exact hx.1 rfl
  · have he : e = 1 := he
    subst he
    intro a ha
    refine ⟨Nat.le_of_ble_eq_true rfl, 10, rfl, ?_⟩
    refine jj_astore dd_La_set_10 (Nat.le_of_ble_eq_true rfl) rfl ?_
    refine jj_iconst (v := 1) dd_La_set_12 rfl ?_
    refine jj_iret dd_La_set_13 rfl rfl ?_
    have h2 := hx.2 (by decide)
    rw [show cdn_ 1 = 1 from by decide] at h2
    exact h2
  · have he : e = 2 := he
    subst he
    intro a ha
    refine ⟨Nat.le_of_ble_eq_true rfl, 14, rfl, ?_⟩
    refine jj_astore dd_La_set_14 (Nat.le_of_ble_eq_true rfl) rfl ?_
    refine jj_iconst (v := 2) dd_La_set_16 rfl ?_
    refine jj_iret dd_La_set_17 rfl rfl ?_
    have h2 := hx.2 (by decide)
    rw [show cdn_ 2 = 2 from by decide] at h2
    exact h2
set_option maxRecDepth 20000 in
theorem cw_La_set0 {l : Launch} {M : mm_M} {Q : Option Value → mm_M → Prop} (hfl : l.flags = pinnedFlags ++ [noTraceFlag]) {g : Nat → Nat} {S : ss_} (hS : rp_ g M S) {u v y : Int32} (hx : ¬ vp_in u 4 ∨ ¬ vp_in v 12) (hQ : Q (some (.int 1)) M) : cw_ l yy_La_set bb_La_set 5 (some .int) hh_La_set 8 1 6 [.ref (g 0), .int u, .int v, .int y] M Q := by
  refine cw_of (by decide) (Nat.le_of_ble_eq_true rfl) (fun G A => ?_)
  refine jj_aload_n 0 dd_La_set_0 rfl ?_
  refine jj_iload_n 1 dd_La_set_1 rfl ?_
  refine jj_iload_n 2 dd_La_set_2 rfl ?_
  refine jj_iload_n 3 dd_La_set_3 rfl ?_
  refine jj_callC (ci := 0) [0, 1] [_, _, _] [] 0 0 dd_La_set_4 cs_La_25 lk_La_25 ci_La_25 (hS.1.1 0 _ rfl) ⟨by decide, rfl⟩ rfl (Nat.le_of_ble_eq_true rfl) ⟨(Nat.le_of_ble_eq_true rfl), (Nat.le_of_ble_eq_true rfl)⟩ ⟨(Nat.le_of_ble_eq_true rfl), (Nat.le_of_ble_eq_true rfl)⟩ rfl cww_La_set ⟨⟨by decide, by decide, by decide, by decide, cl_La_13⟩, ⟨⟨by decide, by decide, by decide, by decide, cl_La_15⟩, trivial⟩⟩ (cx_TC_set0 hfl hS hx (fun a ha => ?_))
  refine ⟨Nat.le_of_ble_eq_true rfl, 10, rfl, ?_⟩
  refine jj_astore dd_La_set_10 (Nat.le_of_ble_eq_true rfl) rfl ?_
  refine jj_iconst (v := 1) dd_La_set_12 rfl ?_
  refine jj_iret dd_La_set_13 rfl rfl ?_
  exact hQ
set_option maxRecDepth 20000 in
theorem cw_La_erase {l : Launch} {M : mm_M} {Q : Option Value → mm_M → Prop} (hfl : l.flags = pinnedFlags ++ [noTraceFlag]) {g : Nat → Nat} {S : ss_} (hS : rp_ g M S) {c : Nat} (hc : c < 4) {i : Nat} (hi : i < 12) (hQ : erC_ S c i (fun e S1 => (e = 0 ∨ e = 1 ∨ e = 2) ∧ ∀ M1, rp_ g M1 S1 → hv_ cdn_ Q e M1)) : cw_ l yy_La_erase bb_La_erase 4 (some .int) hh_La_erase 8 1 6 [.ref (g 0), .int (nI c), .int (nI i)] M Q := by
  refine cw_of (by decide) (Nat.le_of_ble_eq_true rfl) (fun G A => ?_)
  refine jj_aload_n 0 dd_La_erase_0 rfl ?_
  refine jj_iload_n 1 dd_La_erase_1 rfl ?_
  refine jj_iload_n 2 dd_La_erase_2 rfl ?_
  refine jj_callC (ci := 0) [0, 1] [_, _] [] 0 0 dd_La_erase_3 cs_La_29 lk_La_29 ci_La_29 (hS.1.1 0 _ rfl) ⟨by decide, rfl⟩ rfl (Nat.le_of_ble_eq_true rfl) ⟨(Nat.le_of_ble_eq_true rfl), (Nat.le_of_ble_eq_true rfl)⟩ ⟨(Nat.le_of_ble_eq_true rfl), (Nat.le_of_ble_eq_true rfl)⟩ rfl cww_La_erase ⟨⟨by decide, by decide, by decide, by decide, cl_La_13⟩, ⟨⟨by decide, by decide, by decide, by decide, cl_La_15⟩, trivial⟩⟩ (cx_TC_erase hfl hS hc hi ?_)
  refine dtv_mono dt_er hQ (fun e S1 hx M1 hS1 => ?_)
  obtain ⟨he, hx⟩ := hx
  have hx := hx M1 hS1
  rcases he with he | he | he
  · have he : e = 0 := he
    subst he
    show jj_ l _ _ _ _ G _ A _ 0 0 6 _ [] M1
    refine jj_goto (tgt := 15) dd_La_erase_6 (by decide) ?_
    refine jj_iconst (v := 0) dd_La_erase_15 rfl ?_
    refine jj_iret dd_La_erase_16 rfl rfl ?_
    exact hx.1 rfl
  · have he : e = 1 := he
    subst he
    intro a ha
    refine ⟨Nat.le_of_ble_eq_true rfl, 9, rfl, ?_⟩
    refine jj_astore_n dd_La_erase_9 (Nat.le_of_ble_eq_true rfl) rfl ?_
    refine jj_iconst (v := 1) dd_La_erase_10 rfl ?_
    refine jj_iret dd_La_erase_11 rfl rfl ?_
    have h2 := hx.2 (by decide)
    rw [show cdn_ 1 = 1 from by decide] at h2
    exact h2
  · have he : e = 2 := he
    subst he
    intro a ha
    refine ⟨Nat.le_of_ble_eq_true rfl, 12, rfl, ?_⟩
    refine jj_astore_n dd_La_erase_12 (Nat.le_of_ble_eq_true rfl) rfl ?_
    refine jj_iconst (v := 2) dd_La_erase_13 rfl ?_
    refine jj_iret dd_La_erase_14 rfl rfl ?_
    have h2 := hx.2 (by decide)
    rw [show cdn_ 2 = 2 from by decide] at h2
    exact h2
set_option maxRecDepth 20000 in
theorem cw_La_erase0 {l : Launch} {M : mm_M} {Q : Option Value → mm_M → Prop} (hfl : l.flags = pinnedFlags ++ [noTraceFlag]) {g : Nat → Nat} {S : ss_} (hS : rp_ g M S) {u v : Int32} (hx : ¬ vp_in u 4 ∨ ¬ vp_in v 12) (hQ : Q (some (.int 1)) M) : cw_ l yy_La_erase bb_La_erase 4 (some .int) hh_La_erase 8 1 6 [.ref (g 0), .int u, .int v] M Q := by
  refine cw_of (by decide) (Nat.le_of_ble_eq_true rfl) (fun G A => ?_)
  refine jj_aload_n 0 dd_La_erase_0 rfl ?_
  refine jj_iload_n 1 dd_La_erase_1 rfl ?_
  refine jj_iload_n 2 dd_La_erase_2 rfl ?_
  refine jj_callC (ci := 0) [0, 1] [_, _] [] 0 0 dd_La_erase_3 cs_La_29 lk_La_29 ci_La_29 (hS.1.1 0 _ rfl) ⟨by decide, rfl⟩ rfl (Nat.le_of_ble_eq_true rfl) ⟨(Nat.le_of_ble_eq_true rfl), (Nat.le_of_ble_eq_true rfl)⟩ ⟨(Nat.le_of_ble_eq_true rfl), (Nat.le_of_ble_eq_true rfl)⟩ rfl cww_La_erase ⟨⟨by decide, by decide, by decide, by decide, cl_La_13⟩, ⟨⟨by decide, by decide, by decide, by decide, cl_La_15⟩, trivial⟩⟩ (cx_TC_erase0 hfl hS hx (fun a ha => ?_))
  refine ⟨Nat.le_of_ble_eq_true rfl, 9, rfl, ?_⟩
  refine jj_astore_n dd_La_erase_9 (Nat.le_of_ble_eq_true rfl) rfl ?_
  refine jj_iconst (v := 1) dd_La_erase_10 rfl ?_
  refine jj_iret dd_La_erase_11 rfl rfl ?_
  exact hQ
set_option maxRecDepth 20000 in
theorem cw_La_step {l : Launch} {M : mm_M} {Q : Option Value → mm_M → Prop} (hfl : l.flags = pinnedFlags ++ [noTraceFlag]) {g : Nat → Nat} {S : ss_} (hS : rp_ g M S) {c : Nat} (hc : c < 4) (hci : ci_ S) (hQ : stC_ S c (fun e r S1 => (e = 0 ∨ e = 1 ∨ e = 2 ∨ e = 3) ∧ ∀ M1, rp_ g M1 S1 → hq_ cds_ g Q e r M1)) : cw_ l yy_La_step bb_La_step 4 (some .int) hh_La_step 8 4 22 [.ref (g 0), .int (nI c), .ref (g 100)] M Q := by
  refine cw_of (by decide) (Nat.le_of_ble_eq_true rfl) (fun G A => ?_)
  refine jj_aload_n 2 dd_La_step_0 rfl ?_
  refine jj_iconst (v := 0) dd_La_step_1 rfl ?_
  refine jj_aload_n 0 dd_La_step_2 rfl ?_
  refine jj_iload_n 1 dd_La_step_3 rfl ?_
  refine jj_callC (ci := 0) [0, 2, 1] [_] [.int 0, .ref (g 100)] 0 0 dd_La_step_4 cs_La_33 lk_La_33 ci_La_33 (hS.1.1 0 _ rfl) ⟨by decide, rfl⟩ rfl (Nat.le_of_ble_eq_true rfl) ⟨(Nat.le_of_ble_eq_true rfl), (Nat.le_of_ble_eq_true rfl)⟩ ⟨(Nat.le_of_ble_eq_true rfl), (Nat.le_of_ble_eq_true rfl)⟩ rfl cww_La_step ⟨⟨by decide, by decide, by decide, by decide, cl_La_13⟩, ⟨⟨by decide, by decide, by decide, by decide, cl_La_21⟩, ⟨⟨by decide, by decide, by decide, by decide, cl_La_15⟩, trivial⟩⟩⟩ (cx_TC_step hfl hS hc hci ?_)
  refine dt3_mono dt_st hQ (fun e r S1 hx M1 hS1 => ?_)
  obtain ⟨he, hx⟩ := hx
  have hx := hx M1 hS1
  rcases he with he | he | he | he
  · have he : e = 0 := he
    subst he
    show jj_ l _ _ _ _ G _ A _ 0 0 7 _ [.int r, .int 0, .ref (g 100)] M1
    refine jj_i2l dd_La_step_7 ?_
    refine jj_last dd_La_step_8 (hS1.1.1 100 _ rfl) (vp_in_nI (n := 0) (by decide) (by decide)) ?_
    refine jj_goto (tgt := 21) dd_La_step_9 (by decide) ?_
    refine jj_iconst (v := 0) dd_La_step_21 rfl ?_
    refine jj_iret dd_La_step_22 rfl rfl ?_
    exact hx.1 rfl
  · have he : e = 1 := he
    subst he
    intro a ha
    refine ⟨Nat.le_of_ble_eq_true rfl, 12, rfl, ?_⟩
    refine jj_astore_n dd_La_step_12 (Nat.le_of_ble_eq_true rfl) rfl ?_
    refine jj_iconst (v := 1) dd_La_step_13 rfl ?_
    refine jj_iret dd_La_step_14 rfl rfl ?_
    have h2 := hx.2 (by decide)
    rw [show cds_ 1 = 1 from by decide] at h2
    exact h2
  · have he : e = 2 := he
    subst he
    intro a ha
    refine ⟨Nat.le_of_ble_eq_true rfl, 18, rfl, ?_⟩
    refine jj_astore_n dd_La_step_18 (Nat.le_of_ble_eq_true rfl) rfl ?_
    refine jj_iconst (v := 3) dd_La_step_19 rfl ?_
    refine jj_iret dd_La_step_20 rfl rfl ?_
    have h2 := hx.2 (by decide)
    rw [show cds_ 2 = 3 from by decide] at h2
    exact h2
  · have he : e = 3 := he
    subst he
    intro a ha
    refine ⟨Nat.le_of_ble_eq_true rfl, 15, rfl, ?_⟩
    refine jj_astore_n dd_La_step_15 (Nat.le_of_ble_eq_true rfl) rfl ?_
    refine jj_iconst (v := 2) dd_La_step_16 rfl ?_
    refine jj_iret dd_La_step_17 rfl rfl ?_
    have h2 := hx.2 (by decide)
    rw [show cds_ 3 = 2 from by decide] at h2
    exact h2
set_option maxRecDepth 20000 in
theorem cw_La_step0 {l : Launch} {M : mm_M} {Q : Option Value → mm_M → Prop} (hfl : l.flags = pinnedFlags ++ [noTraceFlag]) {g : Nat → Nat} {S : ss_} (hS : rp_ g M S) {u : Int32} (hx : ¬ vp_in u 4) (hQ : Q (some (.int 1)) M) : cw_ l yy_La_step bb_La_step 4 (some .int) hh_La_step 8 4 22 [.ref (g 0), .int u, .ref (g 100)] M Q := by
  refine cw_of (by decide) (Nat.le_of_ble_eq_true rfl) (fun G A => ?_)
  refine jj_aload_n 2 dd_La_step_0 rfl ?_
  refine jj_iconst (v := 0) dd_La_step_1 rfl ?_
  refine jj_aload_n 0 dd_La_step_2 rfl ?_
  refine jj_iload_n 1 dd_La_step_3 rfl ?_
  refine jj_callC (ci := 0) [0, 2, 1] [_] [.int 0, .ref (g 100)] 0 0 dd_La_step_4 cs_La_33 lk_La_33 ci_La_33 (hS.1.1 0 _ rfl) ⟨by decide, rfl⟩ rfl (Nat.le_of_ble_eq_true rfl) ⟨(Nat.le_of_ble_eq_true rfl), (Nat.le_of_ble_eq_true rfl)⟩ ⟨(Nat.le_of_ble_eq_true rfl), (Nat.le_of_ble_eq_true rfl)⟩ rfl cww_La_step ⟨⟨by decide, by decide, by decide, by decide, cl_La_13⟩, ⟨⟨by decide, by decide, by decide, by decide, cl_La_21⟩, ⟨⟨by decide, by decide, by decide, by decide, cl_La_15⟩, trivial⟩⟩⟩ (cx_TC_step0 hfl hS hx (fun a ha => ?_))
  refine ⟨Nat.le_of_ble_eq_true rfl, 12, rfl, ?_⟩
  refine jj_astore_n dd_La_step_12 (Nat.le_of_ble_eq_true rfl) rfl ?_
  refine jj_iconst (v := 1) dd_La_step_13 rfl ?_
  refine jj_iret dd_La_step_14 rfl rfl ?_
  exact hQ
set_option maxRecDepth 20000 in
theorem cw_La_clear {l : Launch} {M : mm_M} {Q : Option Value → mm_M → Prop} (hfl : l.flags = pinnedFlags ++ [noTraceFlag]) {g : Nat → Nat} {S : ss_} (hS : rp_ g M S) {i : Nat} (hi : i < 12) (hci : ci_ S) (hQ : ceC_ S i (fun e r S1 => (e = 0 ∨ e = 1 ∨ e = 2) ∧ ∀ M1, rp_ g M1 S1 → hq_ cdn_ g Q e r M1)) : cw_ l yy_La_clear bb_La_clear 4 (some .int) hh_La_clear 7 3 16 [.ref (g 0), .int (nI i), .ref (g 100)] M Q := by
  refine cw_of (by decide) (Nat.le_of_ble_eq_true rfl) (fun G A => ?_)
  refine jj_aload_n 2 dd_La_clear_0 rfl ?_
  refine jj_iconst (v := 0) dd_La_clear_1 rfl ?_
  refine jj_aload_n 0 dd_La_clear_2 rfl ?_
  refine jj_iload_n 1 dd_La_clear_3 rfl ?_
  refine jj_callC (ci := 0) [0, 1] [_] [.int 0, .ref (g 100)] 0 0 dd_La_clear_4 cs_La_36 lk_La_36 ci_La_36 (hS.1.1 0 _ rfl) ⟨by decide, rfl⟩ rfl (Nat.le_of_ble_eq_true rfl) ⟨(Nat.le_of_ble_eq_true rfl), (Nat.le_of_ble_eq_true rfl)⟩ ⟨(Nat.le_of_ble_eq_true rfl), (Nat.le_of_ble_eq_true rfl)⟩ rfl cww_La_clear ⟨⟨by decide, by decide, by decide, by decide, cl_La_13⟩, ⟨⟨by decide, by decide, by decide, by decide, cl_La_15⟩, trivial⟩⟩ (cx_TC_clear hfl hS hi hci ?_)
  refine dt3_mono dt_ce hQ (fun e r S1 hx M1 hS1 => ?_)
  obtain ⟨he, hx⟩ := hx
  have hx := hx M1 hS1
  rcases he with he | he | he
  · have he : e = 0 := he
    subst he
    show jj_ l _ _ _ _ G _ A _ 0 0 7 _ [.int r, .int 0, .ref (g 100)] M1
    refine jj_i2l dd_La_clear_7 ?_
    refine jj_last dd_La_clear_8 (hS1.1.1 100 _ rfl) (vp_in_nI (n := 0) (by decide) (by decide)) ?_
    refine jj_goto (tgt := 18) dd_La_clear_9 (by decide) ?_
    refine jj_iconst (v := 0) dd_La_clear_18 rfl ?_
    refine jj_iret dd_La_clear_19 rfl rfl ?_
    exact hx.1 rfl
  · have he : e = 1 := he
    subst he
    intro a ha
    refine ⟨Nat.le_of_ble_eq_true rfl, 12, rfl, ?_⟩
    refine jj_astore_n dd_La_clear_12 (Nat.le_of_ble_eq_true rfl) rfl ?_
    refine jj_iconst (v := 1) dd_La_clear_13 rfl ?_
    refine jj_iret dd_La_clear_14 rfl rfl ?_
    have h2 := hx.2 (by decide)
    rw [show cdn_ 1 = 1 from by decide] at h2
    exact h2
  · have he : e = 2 := he
    subst he
    intro a ha
    refine ⟨Nat.le_of_ble_eq_true rfl, 15, rfl, ?_⟩
    refine jj_astore_n dd_La_clear_15 (Nat.le_of_ble_eq_true rfl) rfl ?_
    refine jj_iconst (v := 2) dd_La_clear_16 rfl ?_
    refine jj_iret dd_La_clear_17 rfl rfl ?_
    have h2 := hx.2 (by decide)
    rw [show cdn_ 2 = 2 from by decide] at h2
    exact h2
set_option maxRecDepth 20000 in
theorem cw_La_clear0 {l : Launch} {M : mm_M} {Q : Option Value → mm_M → Prop} (hfl : l.flags = pinnedFlags ++ [noTraceFlag]) {g : Nat → Nat} {S : ss_} (hS : rp_ g M S) {v : Int32} (hx : ¬ vp_in v 12) (hQ : Q (some (.int 1)) M) : cw_ l yy_La_clear bb_La_clear 4 (some .int) hh_La_clear 7 3 16 [.ref (g 0), .int v, .ref (g 100)] M Q := by
  refine cw_of (by decide) (Nat.le_of_ble_eq_true rfl) (fun G A => ?_)
  refine jj_aload_n 2 dd_La_clear_0 rfl ?_
  refine jj_iconst (v := 0) dd_La_clear_1 rfl ?_
  refine jj_aload_n 0 dd_La_clear_2 rfl ?_
  refine jj_iload_n 1 dd_La_clear_3 rfl ?_
  refine jj_callC (ci := 0) [0, 1] [_] [.int 0, .ref (g 100)] 0 0 dd_La_clear_4 cs_La_36 lk_La_36 ci_La_36 (hS.1.1 0 _ rfl) ⟨by decide, rfl⟩ rfl (Nat.le_of_ble_eq_true rfl) ⟨(Nat.le_of_ble_eq_true rfl), (Nat.le_of_ble_eq_true rfl)⟩ ⟨(Nat.le_of_ble_eq_true rfl), (Nat.le_of_ble_eq_true rfl)⟩ rfl cww_La_clear ⟨⟨by decide, by decide, by decide, by decide, cl_La_13⟩, ⟨⟨by decide, by decide, by decide, by decide, cl_La_15⟩, trivial⟩⟩ (cx_TC_clear0 hfl hS hx (fun a ha => ?_))
  refine ⟨Nat.le_of_ble_eq_true rfl, 12, rfl, ?_⟩
  refine jj_astore_n dd_La_clear_12 (Nat.le_of_ble_eq_true rfl) rfl ?_
  refine jj_iconst (v := 1) dd_La_clear_13 rfl ?_
  refine jj_iret dd_La_clear_14 rfl rfl ?_
  exact hQ
