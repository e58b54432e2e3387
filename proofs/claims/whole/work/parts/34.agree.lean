def lf_ (g : Nat → Nat) (M : mm_M) (q : Nat) : Prop := ∀ k, k < 12 → mm_r M (g (20 + k)) 1 ≠ some q
theorem rp_agree {g : Nat → Nat} {M M' : mm_M} {S : ss_} {q : Nat} (hS : rp_ g M S) (hg : ∀ n t, oo_k n = some t → g n ≠ q) (hlf : lf_ g M q) (hfr : fr_ g M q) (hk : ∀ b, b ≠ q → mm_k M' b = mm_k M b) (hi : ∀ b, b ≠ q → ∀ j, mm_i M' b j = mm_i M b j) (hr : ∀ b, b ≠ q → ∀ j, mm_r M' b j = mm_r M b j) : rp_ g M' S ∧ lf_ g M' q ∧ fr_ g M' q := by
  obtain ⟨hl, hI, hd⟩ := hS
  have hcs : ∀ i, i < 12 → ∀ as, ch_ M (mm_r M (g (20 + i)) 2) as → ch_ M' (mm_r M' (g (20 + i)) 2) as := fun i h12 as p1 => by
    rw [hr _ (hg (20 + i) _ (ok_c h12))]
    have hn : ∀ a, a ∈ as → a ≠ q := fun a ha e => hfr i h12 as p1 (e ▸ ha)
    exact ch_sg.mpr (sg_frame (M := M) (fun a ha => ⟨hk _ (hn a ha), hr _ (hn a ha) 4⟩) (ch_sg.mp p1))
  refine ⟨⟨⟨fun n t h => ?_, hl.2.1, ?_, fun t ht => ?_, fun i hi' => ?_, fun c hc => ?_, fun k hk' => ?_⟩, fun n t h j => ?_, fun i h12 => ?_, ?_⟩, fun k hk12 => ?_, fun k hk12 bs h => ?_⟩
  · rw [hk _ (hg n t h)]; exact hl.1 n t h
  · have h0 := hg 0 _ rfl
    rw [hr _ h0, hr _ h0, hr _ h0, hr _ h0]
    exact hl.2.2.1
  · rw [hr _ (hg 2 _ rfl)]; exact hl.2.2.2.1 t ht
  · rw [hr _ (hg 3 _ rfl), hr _ (hg (20 + i) _ (ok_c hi'))]; exact hl.2.2.2.2.1 i hi'
  · rw [hr _ (hg 4 _ rfl), hr _ (hg (40 + c) _ (ok_x hc))]; exact hl.2.2.2.2.2.1 c hc
  · rw [hr _ (hg 60 _ rfl)]; exact hl.2.2.2.2.2.2 k hk'
  · rw [hi _ (hg n t h)]; exact hI n t h j
  · rw [hr _ (hg (20 + i) _ (ok_c h12))]
    have h0 := hd.1 i h12
    cases hL : S.2.1 i with
    | none =>
      rw [hL] at h0
      exact h0
    | some f =>
      rw [hL] at h0
      obtain ⟨a, r1, r2, r3⟩ := h0
      have ha : a ≠ q := fun e => hlf i h12 (e ▸ r1)
      exact ⟨a, r1, by rw [hk _ ha]; exact r2, fun j hj => by rw [hi _ ha]; exact r3 j hj⟩
  · obtain ⟨as, q1, q2⟩ := hd.2
    refine ⟨as, fun i h12 => ?_, q2⟩
    obtain ⟨p1, p2, p3⟩ := q1 i h12
    refine ⟨hcs i h12 _ p1, ?_, p3⟩
    rw [← p2]
    refine List.map_congr_left (fun a ha => ?_)
    have e := hi a (fun e => hfr i h12 _ p1 (e ▸ ha))
    unfold vv_of
    rw [e, e, e, e]
  · rw [hr _ (hg (20 + k) _ (ok_c hk12))]
    exact hlf k hk12
  · obtain ⟨as, q1, q2⟩ := hd.2
    have := ch_det (hcs k hk12 _ (q1 k hk12).1) h
    rw [← this]
    exact hfr k hk12 _ (q1 k hk12).1
/-- an address that has no kind is in no use -/
theorem rp_none {g : Nat → Nat} {M : mm_M} {S : ss_} {q : Nat} (hS : rp_ g M S) (hq : mm_k M q = none) : (∀ n t, oo_k n = some t → g n ≠ q) ∧ lf_ g M q ∧ fr_ g M q := by
  refine ⟨fun n t h e => ?_, fun k hk e => ?_, fun k hk bs h ha => ?_⟩
  · have := hS.1.1 n t h
    rw [e, hq] at this
    cases this
  · have h := hS.2.2.1 k hk
    cases hL : S.2.1 k with
    | none =>
      rw [hL] at h
      rw [e] at h
      cases h
    | some f =>
      rw [hL] at h
      obtain ⟨a, r1, r2, _⟩ := h
      rw [e] at r1
      cases r1
      rw [hq] at r2
      cases r2
  · have := ch_kind h q ha
    rw [hq] at this
    cases this
theorem rp_nw {g : Nat → Nat} {M : mm_M} {S : ss_} {q : Nat} {t : mm_K} (hS : rp_ g M S) (hq : mm_k M q = none) : (∀ n t, oo_k n = some t → g n ≠ q) ∧ rp_ g (mm_nw M q t) S ∧ lf_ g (mm_nw M q t) q ∧ fr_ g (mm_nw M q t) q := by
  obtain ⟨h1, h2, h3⟩ := rp_none hS hq
  exact ⟨h1, rp_agree hS h1 h2 h3 (fun b hb => by rw [mm_k_nw, if_neg hb]) (fun b hb j => by rw [mm_i_nw, if_neg hb]) (fun b hb j => by rw [mm_r_nw, if_neg hb])⟩
theorem rp_vi {g : Nat → Nat} {M : mm_M} {S : ss_} {q : Nat} {x0 x1 x2 x3 : Int32} (hS : rp_ g M S) (hg : ∀ n t, oo_k n = some t → g n ≠ q) (hlf : lf_ g M q) (hfr : fr_ g M q) (hk : mm_k M q = some (.inl 5)) :
    ∃ M', M' = mm_si (mm_si (mm_si (mm_si (mm_sr M q 4 none) q 0 x0) q 1 x1) q 2 x2) q 3 x3 ∧ rp_ g M' S ∧ fr_ g M' q ∧ mm_k M' q = some (.inl 5) ∧ vv_of M' q = (x0, x1, x2, x3) := by
  have h := rp_agree (M' := mm_si (mm_si (mm_si (mm_si (mm_sr M q 4 none) q 0 x0) q 1 x1) q 2 x2) q 3 x3) hS hg hlf hfr (fun b _ => rfl) (fun b hb j => by simp only [mm_i_si, mm_i_sr]; simp [hb]) (fun b hb j => by simp only [mm_r_si, mm_r_sr]; simp [hb])
  refine ⟨_, rfl, h.1, h.2.2, hk, ?_⟩
  unfold vv_of
  simp [mm_i_si, mm_i_sr]
theorem rp_li {g : Nat → Nat} {M : mm_M} {S : ss_} {q : Nat} {x0 x1 x2 x3 x4 x5 : Int32} (hS : rp_ g M S) (hg : ∀ n t, oo_k n = some t → g n ≠ q) (hlf : lf_ g M q) (hfr : fr_ g M q) (hk : mm_k M q = some (.inl 4)) :
    ∃ M', M' = mm_si (mm_si (mm_si (mm_si (mm_si (mm_si M q 0 x0) q 1 x1) q 2 x2) q 3 x3) q 4 x4) q 5 x5 ∧ rp_ g M' S ∧ mm_k M' q = some (.inl 4) ∧ mm_i M' q 0 = x0 ∧ mm_i M' q 1 = x1 ∧ mm_i M' q 2 = x2 ∧ mm_i M' q 3 = x3 ∧ mm_i M' q 4 = x4 ∧ mm_i M' q 5 = x5 := by
  have h := rp_agree (M' := mm_si (mm_si (mm_si (mm_si (mm_si (mm_si M q 0 x0) q 1 x1) q 2 x2) q 3 x3) q 4 x4) q 5 x5) hS hg hlf hfr (fun b _ => rfl) (fun b hb j => by simp only [mm_i_si]; simp [hb]) (fun b hb j => rfl)
  refine ⟨_, rfl, h.1, hk, ?_⟩
  simp [mm_i_si]
theorem rp_pl {g : Nat → Nat} {M : mm_M} {S : ss_} {t : Nat} (hS : rp_ g M S) (ht : t < 3) : rp_ g (pl_M M (g (10 + t))) (plF_ S.1 t, S.2) ∧ pl_r M (g (10 + t)) = plr_ S.1 t ∧ (∀ b, b ≠ g (10 + t) → ∀ j, mm_i (pl_M M (g (10 + t))) b j = mm_i M b j) ∧ ∀ b, mm_k (pl_M M (g (10 + t))) b = mm_k M b := by
  have e := hS.2.1 _ _ (ok_t ht)
  refine ⟨?_, ?_, fun b hb j => ?_, fun b => rfl⟩
  · unfold pl_M pl_L plF_
    simp only [e]
    exact rp_si (rp_si (rp_si (rp_si (rp_si hS (ok_t ht)) (ok_t ht)) (ok_t ht)) (ok_t ht)) (ok_t ht)
  · unfold pl_r plr_
    simp only [e]
  · unfold pl_M
    simp only [mm_i_si]
    simp [hb]
theorem plF_0 (F : Nat → Nat → Int32) (t : Nat) : plF_ F t (10 + t) 0 = if F (10 + t) 4 = 1 then 0 else F (10 + t) 0 := by
  simp [plF_, uf_at]
theorem plF_oth (F : Nat → Nat → Int32) (t n j : Nat) (h : n ≠ 10 + t) : plF_ F t n j = F n j := by
  simp [plF_, uf_at, h]
theorem plF_01 {F : Nat → Nat → Int32} {t : Nat} (h : F (10 + t) 0 = 0 ∨ F (10 + t) 0 = 1) : plF_ F t (10 + t) 0 = 0 ∨ plF_ F t (10 + t) 0 = 1 := by
  rw [plF_0]
  split
  · exact Or.inl rfl
  · exact h
def wl_ (S : ss_) (i : Nat) (f : Nat → Int32) : ss_ := (plF_ S.1 (i / 4), if plr_ S.1 (i / 4) = 0 then S.2.1 else up_ S.2.1 i (some f), S.2.2)
def ad_ (F : Nat → Nat → Int32) (L : Nat → Option (Nat → Int32)) (V : Nat → List vv_) (i : Nat) (v : vv_) : ss_ := (uf_ F (20 + i) 3 (F (20 + i) 3 + 1), up_ L i none, up_ V i (ins_ v (V i)))
def wr_ (S : ss_) (i : Nat) (v : vv_) : ss_ := if plr_ S.1 (i / 4) = 0 then (plF_ S.1 (i / 4), S.2) else ad_ (plF_ S.1 (i / 4)) S.2.1 S.2.2 i v
def dv_ (f : Nat → Int32) (x : Int32) : vv_ := (x, f 0, if f 4 = 0 then 1 else 2, f 5)
