/-! how the two sides begin and end a row's reading -/
theorem D_0 {pix mds lv px md su0 mn0 : Nat → Int32} {L cw : Nat} (hL : 3 ≤ L) (hs : ∀ j, j < 2 → su0 j = 8) (hm : ∀ j, j < 2 → mn0 j = 1) : DOk pix mds L cw 0 (0, 24, 8, 1, 8, 1, lv, px, md, 0, 24) (flN pix 432 128 144, mds, 24, 0, su0, mn0, 0, 24) := by
  refine ⟨24, 8, 1, 8, 1, lv, px, md, 24, _, mds, su0, mn0, rfl, rfl, by omega, ⟨hs 0 (by decide), hm 0 (by decide), hs 1 (by decide), hm 1 (by decide), ⟨1, by decide, rfl⟩, ⟨1, by decide, rfl⟩⟩, fun j hj => absurd hj.2.2 (by omega), fun j hj _ => ?_, fun j hj => absurd hj (by omega), fun j hj => ?_, fun _ _ => rfl⟩
  · unfold oP flN
    exact if_pos (by omega)
  · unfold flN
    exact if_neg (by omega)
/-- what stands on both sides behind a reading -/
theorem D_fin {f g pix mds lv px0 md su0 mn0 : Nat → Int32} {L cw ch b : Nat} {e : DS} (hfg : ∀ j, j < L → f j = g j) (hL : 3 ≤ L) (hcw : cw ≤ 3) (hch : ch ≤ 3) (hc0 : 0 < cw) (hs : ∀ j, j < 2 → su0 j = 8) (hm : ∀ j, j < 2 → mn0 j = 1)
    (hD : DRel g (8 * L) cw (g 2) (flN pix 432 128 144, mds, 24, 0, su0, mn0, 0, 24) b e) (hb : b ≤ cw * ch) (ht : e.2.2.2.1 = 0 → b = cw * ch) :
    (riS f L cw (0, 24, 8, 1, 8, 1, lv, px0, md, 0, 24) (cw * ch)).1 = e.2.2.2.1 ∧ (riS f L cw (0, 24, 8, 1, 8, 1, lv, px0, md, 0, 24) (cw * ch)).2.2.2.2.2.2.2.2.2.1 = e.2.2.2.2.2.2.1 ∧ (riS f L cw (0, 24, 8, 1, 8, 1, lv, px0, md, 0, 24) (cw * ch)).2.2.2.2.2.2.2.2.2.2 = e.2.2.2.2.2.2.2 ∧
    (∀ j, seen cw (cw * ch) j → (riS f L cw (0, 24, 8, 1, 8, 1, lv, px0, md, 0, 24) (cw * ch)).2.2.2.2.2.2.2.1 j = oP e.1 3 j) ∧ (∀ j, j < e.2.2.2.2.2.2.1 → (riS f L cw (0, 24, 8, 1, 8, 1, lv, px0, md, 0, 24) (cw * ch)).2.2.2.2.2.2.2.2.1 j = e.2.1 (9 + j)) ∧ (∀ j, j < 432 → e.1 j = pix j) ∧ (∀ j, j < 9 → e.2.1 j = mds j) ∧ e.2.2.2.2.2.2.1 ≤ cw * ch := by
  rcases D_all (f := f) hfg (by omega) hcw hch hc0 (D_0 (pix := pix) (mds := mds) (lv := lv) (px := px0) (md := md) (cw := cw) hL hs hm) b hb e hD with h | ⟨k, h⟩
  · obtain ⟨q, s, n, s2, n2, lv', px, md', bo, pix', mds', su, mn, h1, rfl, _, _, h2, _, h3, h4, h5⟩ := h
    have hb2 : b = cw * ch := ht rfl
    subst hb2
    rw [h1]
    exact ⟨rfl, rfl, rfl, h2, h3, h4, h5, Nat.le_refl _⟩
  · have h := D_more hc0 hcw h (cw * ch - b)
    rw [show b + (cw * ch - b) = cw * ch by omega] at h
    obtain ⟨er, q, s, n, s2, n2, lv', px, md', bo, pix', mds', su, mn, _, hk, h1, rfl, h2, _, h3, h4, h5⟩ := h
    rw [h1]
    exact ⟨rfl, rfl, rfl, h2, h3, h4, h5, Nat.le_of_lt hk⟩
