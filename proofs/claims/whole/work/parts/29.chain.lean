theorem ok_t {t : Nat} (h : t < 3) : oo_k (10 + t) = some (.inl 2) := by
  match t, h with
  | 0, _ => rfl
  | 1, _ => rfl
  | 2, _ => rfl
theorem ok_c {i : Nat} (h : i < 12) : oo_k (20 + i) = some (.inl 3) := by
  match i, h with
  | 0, _ => rfl
  | 1, _ => rfl
  | 2, _ => rfl
  | 3, _ => rfl
  | 4, _ => rfl
  | 5, _ => rfl
  | 6, _ => rfl
  | 7, _ => rfl
  | 8, _ => rfl
  | 9, _ => rfl
  | 10, _ => rfl
  | 11, _ => rfl
theorem ok_x {c : Nat} (h : c < 4) : oo_k (40 + c) = some (.inl 6) := by
  match c, h with
  | 0, _ => rfl
  | 1, _ => rfl
  | 2, _ => rfl
  | 3, _ => rfl
theorem ok_v {c : Nat} (h : c < 4) : oo_k (50 + c) = some (.inr (0, 12)) := by
  match c, h with
  | 0, _ => rfl
  | 1, _ => rfl
  | 2, _ => rfl
  | 3, _ => rfl
def sg_ (M : mm_M) : Option Nat → List Nat → Option Nat → Prop
  | r, [], r' => r = r'
  | some a, b :: bs, r' => a = b ∧ mm_k M a = some (.inl 5) ∧ sg_ M (mm_r M a 4) bs r'
  | none, _ :: _, _ => False
theorem ch_sg {M : mm_M} : ∀ {as : List Nat} {r : Option Nat}, ch_ M r as ↔ sg_ M r as none := by
  intro as
  induction as with
  | nil =>
    intro r
    cases r with
    | none => exact ⟨fun _ => rfl, fun _ => trivial⟩
    | some a => exact ⟨fun h => h.elim, fun h => by cases h⟩
  | cons b bs ih =>
    intro r
    cases r with
    | none => exact Iff.rfl
    | some a => exact ⟨fun h => ⟨h.1, h.2.1, ih.mp h.2.2⟩, fun h => ⟨h.1, h.2.1, ih.mpr h.2.2⟩⟩
theorem sg_app {M : mm_M} : ∀ {ps : List Nat} {r : Option Nat} {qs : List Nat} {r' : Option Nat}, sg_ M r (ps ++ qs) r' ↔ ∃ m, sg_ M r ps m ∧ sg_ M m qs r' := by
  intro ps
  induction ps with
  | nil => intro r qs r'; exact ⟨fun h => ⟨r, rfl, h⟩, fun ⟨m, h1, h2⟩ => by cases h1; exact h2⟩
  | cons b bs ih =>
    intro r qs r'
    cases r with
    | none => exact ⟨fun h => h.elim, fun ⟨m, h1, _⟩ => h1.elim⟩
    | some a =>
      constructor
      · intro h
        obtain ⟨h1, h2, h3⟩ := h
        obtain ⟨m, h4, h5⟩ := ih.mp h3
        exact ⟨m, ⟨h1, h2, h4⟩, h5⟩
      · intro h
        obtain ⟨m, ⟨h1, h2, h4⟩, h5⟩ := h
        exact ⟨h1, h2, ih.mpr ⟨m, h4, h5⟩⟩
theorem sg_frame {M M' : mm_M} : ∀ {ps : List Nat} {r r' : Option Nat}, (∀ a, a ∈ ps → mm_k M' a = mm_k M a ∧ mm_r M' a 4 = mm_r M a 4) → sg_ M r ps r' → sg_ M' r ps r' := by
  intro ps
  induction ps with
  | nil => intro r r' _ h; exact h
  | cons b bs ih =>
    intro r r' hf h
    cases r with
    | none => exact h.elim
    | some a =>
      obtain ⟨rfl, h2, h3⟩ := h
      have hb := hf a (List.mem_cons_self ..)
      refine ⟨rfl, by rw [hb.1]; exact h2, ?_⟩
      rw [hb.2]
      exact ih (fun x hx => hf x (List.mem_cons_of_mem _ hx)) h3
theorem ch_det {M : mm_M} : ∀ {as bs : List Nat} {r : Option Nat}, ch_ M r as → ch_ M r bs → as = bs := by
  intro as
  induction as with
  | nil =>
    intro bs r h1 h2
    cases r with
    | none => cases bs with
      | nil => rfl
      | cons _ _ => exact h2.elim
    | some a => exact h1.elim
  | cons a as ih =>
    intro bs r h1 h2
    cases r with
    | none => exact h1.elim
    | some x =>
      cases bs with
      | nil => exact h2.elim
      | cons b bs =>
        obtain ⟨rfl, _, h3⟩ := h1
        obtain ⟨rfl, _, h4⟩ := h2
        rw [ih h3 h4]
theorem ch_nil {M : mm_M} {as : List Nat} (h : ch_ M none as) : as = [] := by
  cases as with
  | nil => rfl
  | cons _ _ => exact h.elim
/-- two memories that are alike but at an address that has no kind in the first -/
theorem rp_off {g : Nat → Nat} {M M' : mm_M} {S : ss_} {q : Nat} (hS : rp_ g M S) (hq : mm_k M q = none) (hk : ∀ b, b ≠ q → mm_k M' b = mm_k M b) (hi : ∀ b, b ≠ q → ∀ j, mm_i M' b j = mm_i M b j) (hr : ∀ b, b ≠ q → ∀ j, mm_r M' b j = mm_r M b j) : rp_ g M' S := by
  obtain ⟨hl, hI, hd⟩ := hS
  have hg : ∀ n t, oo_k n = some t → g n ≠ q := fun n t h e => by
    have := hl.1 n t h
    rw [e, hq] at this
    cases this
  have h5 : ∀ a t, mm_k M a = some t → a ≠ q := fun a t h e => by
    rw [e, hq] at h
    cases h
  refine ⟨⟨fun n t h => ?_, hl.2.1, ?_, fun t ht => ?_, fun i hi' => ?_, fun c hc => ?_, fun k hk' => ?_⟩, fun n t h j => ?_, fun i h12 => ?_, ?_⟩
  · rw [hk _ (hg n t h)]; exact hl.1 n t h
  · have h0 := hg 0 _ rfl
    rw [hr _ h0, hr _ h0, hr _ h0, hr _ h0]
    exact hl.2.2.1
  · rw [hr _ (hg 2 _ rfl)]; exact hl.2.2.2.1 t ht
  · rw [hr _ (hg 3 _ rfl), hr _ (hg (20 + i) _ (ok_c hi'))]; exact hl.2.2.2.2.1 i hi'
  · rw [hr _ (hg 4 _ rfl), hr _ (hg (40 + c) _ (ok_x hc))]; exact hl.2.2.2.2.2.1 c hc
  · rw [hr _ (hg 60 _ rfl)]; exact hl.2.2.2.2.2.2 k hk'
  · rw [hi _ (hg n t h)]; exact hI n t h j
  · rw [hr _ (hg (20 + i) _ (ok_c h12))]
    have h0 := hd.1 i h12
    cases hL : S.2.1 i with
    | none =>
      rw [hL] at h0
      exact h0
    | some f =>
      rw [hL] at h0
      obtain ⟨a, r1, r2, r3⟩ := h0
      have ha := h5 a _ r2
      exact ⟨a, r1, by rw [hk _ ha]; exact r2, fun j hj => by rw [hi _ ha]; exact r3 j hj⟩
  · obtain ⟨as, q1, q2⟩ := hd.2
    refine ⟨as, fun i h12 => ?_, q2⟩
    obtain ⟨p1, p2, p3⟩ := q1 i h12
    have hk5 := ch_kind p1
    refine ⟨?_, ?_, p3⟩
    · rw [hr _ (hg (20 + i) _ (ok_c h12))]
      exact ch_sg.mpr (sg_frame (fun a ha => ⟨hk _ (h5 a _ (hk5 a ha)), hr _ (h5 a _ (hk5 a ha)) 4⟩) (ch_sg.mp p1))
    · rw [← p2]
      refine List.map_congr_left (fun a ha => ?_)
      have e := hi _ (h5 a _ (hk5 a ha))
      unfold vv_of
      rw [e, e, e, e]
/-- a layout that a write of a reference at a place of no use to it leaves as it was -/
theorem rp_ly_sr {g : Nat → Nat} {M : mm_M} {a j : Nat} {x : Option Nat} (hl : rp_ly g M) (ha : ∀ n t, oo_k n = some t → a = g n → 20 ≤ n ∧ n < 32 ∧ j ≠ 0) : rp_ly g (mm_sr M a j x) := by
  have hn : ∀ n t, oo_k n = some t → (n < 20 ∨ 31 < n) → ∀ k, mm_r (mm_sr M a j x) (g n) k = mm_r M (g n) k := fun n t h hn k => by
    rw [mm_r_sr, if_neg]
    intro e
    have := ha n t h e.1.symm
    omega
  refine ⟨hl.1, hl.2.1, ?_, fun t ht => ?_, fun i hi => ?_, fun c hc => ?_, fun k hk => ?_⟩
  · rw [hn 0 _ rfl (by omega), hn 0 _ rfl (by omega), hn 0 _ rfl (by omega), hn 0 _ rfl (by omega)]
    exact hl.2.2.1
  · rw [hn 2 _ rfl (by omega)]; exact hl.2.2.2.1 t ht
  · rw [hn 3 _ rfl (by omega)]
    refine ⟨(hl.2.2.2.2.1 i hi).1, ?_⟩
    rw [mm_r_sr, if_neg]
    · exact (hl.2.2.2.2.1 i hi).2
    · intro e
      exact (ha (20 + i) _ (ok_c hi) e.1.symm).2.2 e.2.symm
  · rw [hn 4 _ rfl (by omega), hn (40 + c) _ (ok_x hc) (by omega)]; exact hl.2.2.2.2.2.1 c hc
  · rw [hn 60 _ rfl (by omega)]; exact hl.2.2.2.2.2.2 k hk
def up_ {α : Type} (L : Nat → α) (i : Nat) (x : α) : Nat → α := fun j => if j = i then x else L j
theorem up_at {α : Type} (L : Nat → α) (i : Nat) (x : α) (j : Nat) : up_ L i x j = if j = i then x else L j := rfl
theorem rp_gne {g : Nat → Nat} {M : mm_M} (hl : rp_ly g M) {n n' : Nat} {t t' : mm_K} (h : oo_k n = some t) (h' : oo_k n' = some t') (hn : n ≠ n') : g n ≠ g n' := fun e => hn (hl.2.1 n n' t t' h h' e)
/-- the lock of a cell is written -/
theorem rp_slk {g : Nat → Nat} {M : mm_M} {S : ss_} {i : Nat} {r : Option Nat} {f : Option (Nat → Int32)} (hS : rp_ g M S) (hi : i < 12) (hf : rp_lk M r f) : rp_ g (mm_sr M (g (20 + i)) 1 r) (S.1, up_ S.2.1 i f, S.2.2) := by
  obtain ⟨hl, hI, hd⟩ := hS
  have hly : rp_ly g (mm_sr M (g (20 + i)) 1 r) := rp_ly_sr hl (fun n t h e => by
    have := hl.2.1 (20 + i) n _ _ (ok_c hi) h e
    omega)
  have hlk : ∀ r' f', rp_lk M r' f' → rp_lk (mm_sr M (g (20 + i)) 1 r) r' f' := fun r' f' h => by
    cases f' with
    | none => exact h
    | some f' => exact h
  refine ⟨hly, hI, fun k hk => ?_, ?_⟩
  · show rp_lk _ _ (up_ S.2.1 i f k)
    rw [mm_r_sr, up_at]
    by_cases e : k = i
    · subst e
      rw [if_pos ⟨rfl, rfl⟩, if_pos rfl]
      exact hlk _ _ hf
    · rw [if_neg (fun z => rp_gne hl (ok_c hk) (ok_c hi) (by omega) z.1), if_neg e]
      exact hlk _ _ (hd.1 k hk)
  · obtain ⟨as, q1, q2⟩ := hd.2
    refine ⟨as, fun k hk => ?_, q2⟩
    obtain ⟨p1, p2, p3⟩ := q1 k hk
    refine ⟨?_, p2, p3⟩
    rw [mm_r_sr, if_neg (fun z => absurd z.2 (by decide))]
    exact ch_sg.mpr (sg_frame (M := M) (fun a ha => ⟨rfl, by rw [mm_r_sr, if_neg (fun z => absurd z.2 (by decide))]⟩) (ch_sg.mp p1))
def fr_ (g : Nat → Nat) (M : mm_M) (a : Nat) : Prop := ∀ k, k < 12 → ∀ bs, ch_ M (mm_r M (g (20 + k)) 2) bs → a ∉ bs
/-- the chain of a cell is written -/
theorem rp_chain {g : Nat → Nat} {M M' : mm_M} {S : ss_} {i : Nat} {as0 as' : List Nat} (hS : rp_ g M S) (hi : i < 12) (hk : ∀ b, mm_k M' b = mm_k M b) (hI : ∀ b j, mm_i M' b j = mm_i M b j) (hly : rp_ly g M') (hlk : ∀ k, k < 12 → mm_r M' (g (20 + k)) 1 = mm_r M (g (20 + k)) 1)
    (h0 : ch_ M (mm_r M (g (20 + i)) 2) as0) (h1 : ch_ M' (mm_r M' (g (20 + i)) 2) as') (hn : as'.Nodup) (hsub : ∀ a, a ∈ as' → a ∈ as0 ∨ fr_ g M a)
    (hoth : ∀ k, k < 12 → k ≠ i → mm_r M' (g (20 + k)) 2 = mm_r M (g (20 + k)) 2 ∧ ∀ bs, ch_ M (mm_r M (g (20 + k)) 2) bs → ∀ a, a ∈ bs → mm_r M' a 4 = mm_r M a 4) : rp_ g M' (S.1, S.2.1, up_ S.2.2 i (as'.map (vv_of M))) := by
  obtain ⟨hl, hF, hd⟩ := hS
  have hvv : ∀ a, vv_of M' a = vv_of M a := fun a => by
    unfold vv_of
    rw [hI, hI, hI, hI]
  refine ⟨hly, fun n t h j => by rw [hI]; exact hF n t h j, fun k hk12 => ?_, ?_⟩
  · rw [hlk k hk12]
    have h := hd.1 k hk12
    show rp_lk M' _ (S.2.1 k)
    cases hL : S.2.1 k with
    | none => rw [hL] at h; exact h
    | some f =>
      rw [hL] at h
      obtain ⟨a, r1, r2, r3⟩ := h
      exact ⟨a, r1, by rw [hk]; exact r2, fun j hj => by rw [hI]; exact r3 j hj⟩
  · obtain ⟨as, q1, q2⟩ := hd.2
    have e0 : as i = as0 := ch_det (q1 i hi).1 h0
    refine ⟨up_ as i as', fun k hk12 => ?_, fun j k hj hk12 hjk a ha hb => ?_⟩
    · show ch_ M' _ (up_ as i as' k) ∧ (up_ as i as' k).map (vv_of M') = up_ S.2.2 i (as'.map (vv_of M)) k ∧ (up_ as i as' k).Nodup
      rw [up_at, up_at]
      by_cases e : k = i
      · subst e
        rw [if_pos rfl, if_pos rfl]
        exact ⟨h1, List.map_congr_left (fun a _ => hvv a), hn⟩
      · rw [if_neg e, if_neg e]
        obtain ⟨p1, p2, p3⟩ := q1 k hk12
        obtain ⟨o1, o2⟩ := hoth k hk12 e
        refine ⟨?_, ?_, p3⟩
        · rw [o1]
          exact ch_sg.mpr (sg_frame (M := M) (fun a ha => ⟨hk a, o2 _ p1 a ha⟩) (ch_sg.mp p1))
        · rw [← p2]
          exact List.map_congr_left (fun a _ => hvv a)
    · rw [up_at] at ha hb
      by_cases e : j = i
      · subst e
        rw [if_pos rfl] at ha
        rw [if_neg (fun z => hjk z.symm)] at hb
        rcases hsub a ha with h | h
        · rw [← e0] at h
          exact q2 j k hj hk12 hjk a h hb
        · exact h k hk12 _ (q1 k hk12).1 hb
      · rw [if_neg e] at ha
        by_cases e2 : k = i
        · subst e2
          rw [if_pos rfl] at hb
          rcases hsub a hb with h | h
          · rw [← e0] at h
            exact q2 j k hj hk12 hjk a ha h
          · exact h j hj _ (q1 j hj).1 ha
        · rw [if_neg e2] at hb
          exact q2 j k hj hk12 hjk a ha hb
theorem rp_as {g : Nat → Nat} {M : mm_M} {S : ss_} {i : Nat} (hS : rp_ g M S) (hi : i < 12) : ∃ as, ch_ M (mm_r M (g (20 + i)) 2) as ∧ as.map (vv_of M) = S.2.2 i ∧ as.Nodup := by
  obtain ⟨as, q1, _⟩ := hS.2.2.2
  exact ⟨as i, q1 i hi⟩
theorem rp_dj {g : Nat → Nat} {M : mm_M} {S : ss_} {i k : Nat} {as bs : List Nat} (hS : rp_ g M S) (hi : i < 12) (hk : k < 12) (hik : i ≠ k) (h1 : ch_ M (mm_r M (g (20 + i)) 2) as) (h2 : ch_ M (mm_r M (g (20 + k)) 2) bs) : ∀ a, a ∈ as → a ∉ bs := by
  obtain ⟨cs, q1, q2⟩ := hS.2.2.2
  rw [← ch_det (q1 i hi).1 h1, ← ch_det (q1 k hk).1 h2]
  exact q2 i k hi hk hik
theorem rp_5ne {g : Nat → Nat} {M : mm_M} (hl : rp_ly g M) {a n : Nat} {t : mm_K} (ha : mm_k M a = some (.inl 5)) (hn : oo_k n = some t) : a ≠ g n := fun e => by
  rw [e, hl.1 n t hn] at ha
  exact (oo_k_no4 n).2 (hn.trans ha)
theorem rp_sroot {g : Nat → Nat} {M : mm_M} {S : ss_} {i : Nat} {as0 as' : List Nat} {x : Option Nat} (hS : rp_ g M S) (hi : i < 12) (h0 : ch_ M (mm_r M (g (20 + i)) 2) as0) (h1 : ch_ M x as') (hn : as'.Nodup) (hsub : ∀ a, a ∈ as' → a ∈ as0 ∨ fr_ g M a) :
    rp_ g (mm_sr M (g (20 + i)) 2 x) (S.1, S.2.1, up_ S.2.2 i (as'.map (vv_of M))) := by
  refine rp_chain hS hi (fun _ => rfl) (fun _ _ => rfl) (rp_ly_sr hS.1 (fun n t h e => ?_)) (fun k hk => ?_) h0 ?_ hn hsub (fun k hk e => ⟨?_, fun bs h a ha => ?_⟩)
  · have := hS.1.2.1 (20 + i) n _ _ (ok_c hi) h e
    omega
  · rw [mm_r_sr, if_neg (fun z => absurd z.2 (by decide))]
  · rw [mm_r_sr, if_pos ⟨rfl, rfl⟩]
    exact ch_sg.mpr (sg_frame (M := M) (fun a ha => ⟨rfl, by rw [mm_r_sr, if_neg (fun z => absurd z.2 (by decide))]⟩) (ch_sg.mp h1))
  · rw [mm_r_sr, if_neg (fun z => rp_gne hS.1 (ok_c hk) (ok_c hi) (by omega) z.1)]
  · rw [mm_r_sr, if_neg (fun z => absurd z.2 (by decide))]
theorem rp_slink {g : Nat → Nat} {M : mm_M} {S : ss_} {i p : Nat} {ps qs rs : List Nat} {x : Option Nat} (hS : rp_ g M S) (hi : i < 12) (h0 : ch_ M (mm_r M (g (20 + i)) 2) (ps ++ p :: qs)) (h1 : ch_ M x rs) (hn : (ps ++ p :: rs).Nodup) (hsub : ∀ a, a ∈ rs → a ∈ qs ∨ fr_ g M a) :
    rp_ g (mm_sr M p 4 x) (S.1, S.2.1, up_ S.2.2 i ((ps ++ p :: rs).map (vv_of M))) := by
  have hp5 : mm_k M p = some (.inl 5) := ch_kind h0 p (by simp)
  have hpn : ∀ n t, oo_k n = some t → p ≠ g n := fun n t h => rp_5ne hS.1 hp5 h
  have hps : p ∉ ps ∧ p ∉ rs := by
    rw [List.nodup_append] at hn
    refine ⟨fun h => hn.2.2 p h p (by simp) rfl, ?_⟩
    have := hn.2.1
    rw [List.nodup_cons] at this
    exact this.1
  have hf : ∀ a j, a ≠ p → mm_r (mm_sr M p 4 x) a j = mm_r M a j := fun a j h => by rw [mm_r_sr, if_neg (fun z => h z.1)]
  refine rp_chain hS hi (fun _ => rfl) (fun _ _ => rfl) (rp_ly_sr hS.1 (fun n t h e => absurd e (hpn n t h))) (fun k hk => hf _ _ (fun e => hpn _ _ (ok_c hk) e.symm)) h0 ?_ hn (fun a ha => ?_) (fun k hk e => ⟨hf _ _ (fun e => hpn _ _ (ok_c hk) e.symm), fun bs h a ha => hf _ _ (fun e2 => ?_)⟩)
  · rw [hf _ _ (fun e => hpn _ _ (ok_c hi) e.symm)]
    obtain ⟨m, s1, s2⟩ := sg_app.mp (ch_sg.mp h0)
    refine ch_sg.mpr (sg_app.mpr ⟨m, sg_frame (M := M) (fun a ha => ⟨rfl, hf a 4 (fun e => hps.1 (e ▸ ha))⟩) s1, ?_⟩)
    cases m with
    | none => exact s2.elim
    | some b =>
      obtain ⟨rfl, s3, _⟩ := s2
      refine ⟨rfl, s3, ?_⟩
      rw [mm_r_sr, if_pos ⟨rfl, rfl⟩]
      exact sg_frame (M := M) (fun a ha => ⟨rfl, hf a 4 (fun e => hps.2 (e ▸ ha))⟩) (ch_sg.mp h1)
  · rcases List.mem_append.mp ha with h | h
    · exact Or.inl (by simp [h])
    · rcases List.mem_cons.mp h with h | h
      · exact Or.inl (by simp [h])
      · rcases hsub a h with h | h
        · exact Or.inl (by simp [h])
        · exact Or.inr h
  · subst e2
    exact rp_dj hS hi hk (fun z => e z.symm) h0 h a (by simp) ha
/-- a version that lies in no chain gets its link -/
theorem rp_sfree {g : Nat → Nat} {M : mm_M} {S : ss_} {a : Nat} {x : Option Nat} (hS : rp_ g M S) (ha : mm_k M a = some (.inl 5)) (hf : fr_ g M a) : rp_ g (mm_sr M a 4 x) S ∧ fr_ g (mm_sr M a 4 x) a ∧ (∀ k, k < 12 → ∀ bs, ch_ M (mm_r M (g (20 + k)) 2) bs → ch_ (mm_sr M a 4 x) (mm_r M (g (20 + k)) 2) bs) := by
  have hpn : ∀ n t, oo_k n = some t → a ≠ g n := fun n t h => rp_5ne hS.1 ha h
  have hr : ∀ b j, b ≠ a → mm_r (mm_sr M a 4 x) b j = mm_r M b j := fun b j h => by rw [mm_r_sr, if_neg (fun z => h z.1)]
  have hc : ∀ k, k < 12 → ∀ bs, ch_ M (mm_r M (g (20 + k)) 2) bs → ch_ (mm_sr M a 4 x) (mm_r M (g (20 + k)) 2) bs := fun k hk bs h =>
    ch_sg.mpr (sg_frame (M := M) (fun b hb => ⟨rfl, hr b 4 (fun e => hf k hk bs h (e ▸ hb))⟩) (ch_sg.mp h))
  refine ⟨⟨rp_ly_sr hS.1 (fun n t h e => absurd e (hpn n t h)), hS.2.1, fun k hk => ?_, ?_⟩, fun k hk bs h hb => ?_, hc⟩
  · rw [hr _ _ (fun e => hpn _ _ (ok_c hk) e.symm)]
    have h := hS.2.2.1 k hk
    cases hL : S.2.1 k with
    | none => rw [hL] at h; exact h
    | some f => rw [hL] at h; exact h
  · obtain ⟨as, q1, q2⟩ := hS.2.2.2
    refine ⟨as, fun k hk => ?_, q2⟩
    obtain ⟨p1, p2, p3⟩ := q1 k hk
    refine ⟨?_, p2, p3⟩
    rw [hr _ _ (fun e => hpn _ _ (ok_c hk) e.symm)]
    exact hc k hk _ p1
  · rw [hr _ _ (fun e => hpn _ _ (ok_c hk) e.symm)] at h
    obtain ⟨as, p1, _⟩ := rp_as hS hk
    have := ch_det (hc k hk _ p1) h
    subst this
    exact hf k hk _ p1 hb
theorem rp_4ne {g : Nat → Nat} {M : mm_M} (hl : rp_ly g M) {a n : Nat} {t : mm_K} (ha : mm_k M a = some (.inl 4)) (hn : oo_k n = some t) : a ≠ g n := fun e => by
  rw [e, hl.1 n t hn] at ha
  exact (oo_k_no4 n).1 (hn.trans ha)
