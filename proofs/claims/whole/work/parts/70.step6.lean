set_option maxHeartbeats 2000000 in
theorem p_apart {px : Nat → Int32} {vz : Int32} {vw : Int32} {vh : Int32} {pxc : Nat → Int32} {mdc : Nat → Int32} {vzc : Int32} {vwc : Int32} {vhc : Int32} {vkc : Int32} {pxr : Nat → Int32} {mdr : Nat → Int32} {vzr : Int32} {vwr : Int32} {vhr : Int32} {vkr : Int32} {yt : Nat → Int32} {yl : Nat} {ibc : Int32} {ilc : Int32} {igl : Int32} {ibk : Int32} {ifa : Int32} {ibd : Int32} {wd : Nat → Int32} {hg : Nat → Int32} {pix : Nat → Int32} {str : Nat → Int32} {mds : Nat → Int32} {thr : Nat → Int32} {isz : Int32} {ibl : Int32} {ile : Int32} {igr : Int32} {mbk : Int32} {ist : Int32} {ibr : Int32} {fou : Nat → UInt64} {i1 : Int32} {i2 : Int32} {fouN : Nat → UInt64} {ithN : Int32} {k : Int32} {bb : UInt64} (hI : INV px vz vw vh pxc mdc vzc vwc vhc vkc pxr mdr vzr vwr vhr vkr yt yl ibc ilc igl ibk ifa ibd wd hg pix str mds thr isz ibl ile igr mbk ist ibr) (h1 : rx_apart vz vw vh px vzc vwc vhc pxc vzr vwr vhr pxr fou i1 i2 fouN k) (h2 : rm_apart wd hg pix thr i1 i2 ithN bb) : ithN = k ∧ (k = 0 → fouN 0 = bb) ∧ INV px vz vw vh pxc mdc vzc vwc vhc vkc pxr mdr vzr vwr vhr vkr yt yl ibc ilc igl ibk ifa ibd wd hg pix str mds thr isz ibl ile igr mbk ist ibr := by
  have hI0 := hI
  obtain ⟨⟨z0, t0, ⟨cw0, ch0, hcw0, hch0, ew, eh, mw, mh⟩, hpx⟩, A1, A2, B1, B2, ⟨es, hyl, hyt⟩, ⟨q1, q2, q3, q4, q5⟩, hPX⟩ := hI0
  unfold rx_apart at h1
  unfold rm_apart at h2
  rcases h1 with ⟨pw, ph, e0, e1, e2, e3, a0, a1, a2, a3, rfl, rfl⟩ | ⟨pw, ph, e0, e1, e2, e3, e4, e5, a0, a1, a2, a3, rfl, rfl⟩ | ⟨pw, ph, e0, e1, e2, e3, e4, e5, a0, a1, a2, a3, rfl, rfl⟩ | ⟨pw, ph, e0, e1, e2, e3, e4, e5, a0, a1, a2, a3, rfl, rfl⟩ | ⟨pw, ph, e0, e1, e2, e3, a0, a1, a2, a3, rfl, rfl⟩ | ⟨pw, ph, e0, e1, e2, e3, e4, e5, a0, a1, a2, a3, rfl, rfl⟩ | ⟨pw, ph, e0, e1, e2, e3, e4, e5, a0, a1, a2, a3, rfl, rfl⟩ | ⟨pw, ph, e0, e1, e2, e3, e4, e5, a0, a1, a2, a3, rfl, rfl⟩ | ⟨pw, ph, e0, e1, e2, e3, a0, a1, a2, a3, rfl, rfl⟩ | ⟨a0, rfl, u0⟩ | ⟨e0, e1, a0, rfl, u0⟩ | ⟨e0, e1, a0, rfl, u0⟩ | ⟨e0, e1, a0, a1, a2, rfl, u0⟩ | ⟨e0, e1, a0, rfl, u0⟩ | ⟨e0, e1, a0, a1, a2, rfl, u0⟩ | ⟨e0, e1, a0, rfl, u0⟩ | ⟨e0, e1, a0, a1, a2, rfl, u0⟩ | ⟨e0, e1, a0, rfl, u0⟩ | ⟨e0, e1, a0, rfl, u0⟩ | ⟨e0, e1, a0, a1, a2, rfl, u0⟩ | ⟨e0, e1, a0, rfl, u0⟩ | ⟨e0, e1, a0, a1, a2, rfl, u0⟩ | ⟨e0, e1, a0, rfl, u0⟩ | ⟨e0, e1, a0, a1, a2, rfl, u0⟩ | ⟨e0, e1, a0, rfl, u0⟩
  · skip
    rcases h2 with ⟨o12, o22, pw2, ph2, g0, g1, b0, b1, b2, b3, b4, b5, b6, b7, b8, b9, b10, b11, rfl, rfl⟩ | ⟨b0, rfl, rfl⟩ | ⟨o12, o22, g0, g1, b0, b1, b2, rfl, rfl⟩ | ⟨o12, o22, g0, g1, b0, b1, b2, b3, b4, rfl, rfl⟩
    · have w := nI_inj (b := 0) (g0.symm.trans e0) (by omega) (by decide)
      have w2 := nI_inj (b := 0) (g1.symm.trans e1) (by omega) (by decide)
      subst w
      subst w2
      obtain ⟨r1, r2⟩ := ap_d (fou := fou) (hI.1.pic) (hI.1.pic) (Or.inl ⟨pw, ph, e2, e3, a0, a1, e2, e3, a2.2, a3.2, rfl, rfl⟩) (Or.inl ⟨pw2, ph2, b2, b3, b4, b5, b6, b7, b8.2, b9.2, rfl, rfl⟩)
      exact ⟨r1, r2, hI⟩
    · exact absurd (by rw [e0, e1]; decide) b0
    · have w := nI_inj (b := 0) (g0.symm.trans e0) (by omega) (by decide)
      have w2 := nI_inj (b := 0) (g1.symm.trans e1) (by omega) (by decide)
      subst w
      subst w2
      obtain ⟨r1, r2⟩ := ap_d (fou := fou) (b := 0) (hI.1.pic) (hI.1.pic) (Or.inl ⟨pw, ph, e2, e3, a0, a1, e2, e3, a2.2, a3.2, rfl, rfl⟩) (Or.inr (Or.inl ⟨b2, rfl⟩))
      exact ⟨r1, fun h => absurd (r1.trans h) (by decide), hI⟩
    · have w := nI_inj (b := 0) (g0.symm.trans e0) (by omega) (by decide)
      have w2 := nI_inj (b := 0) (g1.symm.trans e1) (by omega) (by decide)
      subst w
      subst w2
      obtain ⟨r1, r2⟩ := ap_d (fou := fou) (b := 0) (hI.1.pic) (hI.1.pic) (Or.inl ⟨pw, ph, e2, e3, a0, a1, e2, e3, a2.2, a3.2, rfl, rfl⟩) (Or.inr (Or.inr ⟨b2, b3, b4, rfl⟩))
      exact ⟨r1, fun h => absurd (r1.trans h) (by decide), hI⟩
  · skip
    rcases h2 with ⟨o12, o22, pw2, ph2, g0, g1, b0, b1, b2, b3, b4, b5, b6, b7, b8, b9, b10, b11, rfl, rfl⟩ | ⟨b0, rfl, rfl⟩ | ⟨o12, o22, g0, g1, b0, b1, b2, rfl, rfl⟩ | ⟨o12, o22, g0, g1, b0, b1, b2, b3, b4, rfl, rfl⟩
    · have w := nI_inj (b := 0) (g0.symm.trans e0) (by omega) (by decide)
      have w2 := nI_inj (b := 1) (g1.symm.trans e1) (by omega) (by decide)
      subst w
      subst w2
      obtain ⟨r1, r2⟩ := ap_d (fou := fou) (hI.1.pic) (hI.2.1) (Or.inl ⟨pw, ph, e2, e3, a0, a1, e4, e5, a2.2, a3.2, rfl, rfl⟩) (Or.inl ⟨pw2, ph2, b2, b3, b4, b5, b6, b7, b8.2, b9.2, rfl, rfl⟩)
      exact ⟨r1, r2, hI⟩
    · exact absurd (by rw [e0, e1]; decide) b0
    · have w := nI_inj (b := 0) (g0.symm.trans e0) (by omega) (by decide)
      have w2 := nI_inj (b := 1) (g1.symm.trans e1) (by omega) (by decide)
      subst w
      subst w2
      obtain ⟨r1, r2⟩ := ap_d (fou := fou) (b := 0) (hI.1.pic) (hI.2.1) (Or.inl ⟨pw, ph, e2, e3, a0, a1, e4, e5, a2.2, a3.2, rfl, rfl⟩) (Or.inr (Or.inl ⟨b2, rfl⟩))
      exact ⟨r1, fun h => absurd (r1.trans h) (by decide), hI⟩
    · have w := nI_inj (b := 0) (g0.symm.trans e0) (by omega) (by decide)
      have w2 := nI_inj (b := 1) (g1.symm.trans e1) (by omega) (by decide)
      subst w
      subst w2
      obtain ⟨r1, r2⟩ := ap_d (fou := fou) (b := 0) (hI.1.pic) (hI.2.1) (Or.inl ⟨pw, ph, e2, e3, a0, a1, e4, e5, a2.2, a3.2, rfl, rfl⟩) (Or.inr (Or.inr ⟨b2, b3, b4, rfl⟩))
      exact ⟨r1, fun h => absurd (r1.trans h) (by decide), hI⟩
  · skip
    rcases h2 with ⟨o12, o22, pw2, ph2, g0, g1, b0, b1, b2, b3, b4, b5, b6, b7, b8, b9, b10, b11, rfl, rfl⟩ | ⟨b0, rfl, rfl⟩ | ⟨o12, o22, g0, g1, b0, b1, b2, rfl, rfl⟩ | ⟨o12, o22, g0, g1, b0, b1, b2, b3, b4, rfl, rfl⟩
    · have w := nI_inj (b := 0) (g0.symm.trans e0) (by omega) (by decide)
      have w2 := nI_inj (b := 2) (g1.symm.trans e1) (by omega) (by decide)
      subst w
      subst w2
      obtain ⟨r1, r2⟩ := ap_d (fou := fou) (hI.1.pic) (hI.2.2.1) (Or.inl ⟨pw, ph, e2, e3, a0, a1, e4, e5, a2.2, a3.2, rfl, rfl⟩) (Or.inl ⟨pw2, ph2, b2, b3, b4, b5, b6, b7, b8.2, b9.2, rfl, rfl⟩)
      exact ⟨r1, r2, hI⟩
    · exact absurd (by rw [e0, e1]; decide) b0
    · have w := nI_inj (b := 0) (g0.symm.trans e0) (by omega) (by decide)
      have w2 := nI_inj (b := 2) (g1.symm.trans e1) (by omega) (by decide)
      subst w
      subst w2
      obtain ⟨r1, r2⟩ := ap_d (fou := fou) (b := 0) (hI.1.pic) (hI.2.2.1) (Or.inl ⟨pw, ph, e2, e3, a0, a1, e4, e5, a2.2, a3.2, rfl, rfl⟩) (Or.inr (Or.inl ⟨b2, rfl⟩))
      exact ⟨r1, fun h => absurd (r1.trans h) (by decide), hI⟩
    · have w := nI_inj (b := 0) (g0.symm.trans e0) (by omega) (by decide)
      have w2 := nI_inj (b := 2) (g1.symm.trans e1) (by omega) (by decide)
      subst w
      subst w2
      obtain ⟨r1, r2⟩ := ap_d (fou := fou) (b := 0) (hI.1.pic) (hI.2.2.1) (Or.inl ⟨pw, ph, e2, e3, a0, a1, e4, e5, a2.2, a3.2, rfl, rfl⟩) (Or.inr (Or.inr ⟨b2, b3, b4, rfl⟩))
      exact ⟨r1, fun h => absurd (r1.trans h) (by decide), hI⟩
  · skip
    rcases h2 with ⟨o12, o22, pw2, ph2, g0, g1, b0, b1, b2, b3, b4, b5, b6, b7, b8, b9, b10, b11, rfl, rfl⟩ | ⟨b0, rfl, rfl⟩ | ⟨o12, o22, g0, g1, b0, b1, b2, rfl, rfl⟩ | ⟨o12, o22, g0, g1, b0, b1, b2, b3, b4, rfl, rfl⟩
    · have w := nI_inj (b := 1) (g0.symm.trans e0) (by omega) (by decide)
      have w2 := nI_inj (b := 0) (g1.symm.trans e1) (by omega) (by decide)
      subst w
      subst w2
      obtain ⟨r1, r2⟩ := ap_d (fou := fou) (hI.2.1) (hI.1.pic) (Or.inl ⟨pw, ph, e2, e3, a0, a1, e4, e5, a2.2, a3.2, rfl, rfl⟩) (Or.inl ⟨pw2, ph2, b2, b3, b4, b5, b6, b7, b8.2, b9.2, rfl, rfl⟩)
      exact ⟨r1, r2, hI⟩
    · exact absurd (by rw [e0, e1]; decide) b0
    · have w := nI_inj (b := 1) (g0.symm.trans e0) (by omega) (by decide)
      have w2 := nI_inj (b := 0) (g1.symm.trans e1) (by omega) (by decide)
      subst w
      subst w2
      obtain ⟨r1, r2⟩ := ap_d (fou := fou) (b := 0) (hI.2.1) (hI.1.pic) (Or.inl ⟨pw, ph, e2, e3, a0, a1, e4, e5, a2.2, a3.2, rfl, rfl⟩) (Or.inr (Or.inl ⟨b2, rfl⟩))
      exact ⟨r1, fun h => absurd (r1.trans h) (by decide), hI⟩
    · have w := nI_inj (b := 1) (g0.symm.trans e0) (by omega) (by decide)
      have w2 := nI_inj (b := 0) (g1.symm.trans e1) (by omega) (by decide)
      subst w
      subst w2
      obtain ⟨r1, r2⟩ := ap_d (fou := fou) (b := 0) (hI.2.1) (hI.1.pic) (Or.inl ⟨pw, ph, e2, e3, a0, a1, e4, e5, a2.2, a3.2, rfl, rfl⟩) (Or.inr (Or.inr ⟨b2, b3, b4, rfl⟩))
      exact ⟨r1, fun h => absurd (r1.trans h) (by decide), hI⟩
  · skip
    rcases h2 with ⟨o12, o22, pw2, ph2, g0, g1, b0, b1, b2, b3, b4, b5, b6, b7, b8, b9, b10, b11, rfl, rfl⟩ | ⟨b0, rfl, rfl⟩ | ⟨o12, o22, g0, g1, b0, b1, b2, rfl, rfl⟩ | ⟨o12, o22, g0, g1, b0, b1, b2, b3, b4, rfl, rfl⟩
    · have w := nI_inj (b := 1) (g0.symm.trans e0) (by omega) (by decide)
      have w2 := nI_inj (b := 1) (g1.symm.trans e1) (by omega) (by decide)
      subst w
      subst w2
      obtain ⟨r1, r2⟩ := ap_d (fou := fou) (hI.2.1) (hI.2.1) (Or.inl ⟨pw, ph, e2, e3, a0, a1, e2, e3, a2.2, a3.2, rfl, rfl⟩) (Or.inl ⟨pw2, ph2, b2, b3, b4, b5, b6, b7, b8.2, b9.2, rfl, rfl⟩)
      exact ⟨r1, r2, hI⟩
    · exact absurd (by rw [e0, e1]; decide) b0
    · have w := nI_inj (b := 1) (g0.symm.trans e0) (by omega) (by decide)
      have w2 := nI_inj (b := 1) (g1.symm.trans e1) (by omega) (by decide)
      subst w
      subst w2
      obtain ⟨r1, r2⟩ := ap_d (fou := fou) (b := 0) (hI.2.1) (hI.2.1) (Or.inl ⟨pw, ph, e2, e3, a0, a1, e2, e3, a2.2, a3.2, rfl, rfl⟩) (Or.inr (Or.inl ⟨b2, rfl⟩))
      exact ⟨r1, fun h => absurd (r1.trans h) (by decide), hI⟩
    · have w := nI_inj (b := 1) (g0.symm.trans e0) (by omega) (by decide)
      have w2 := nI_inj (b := 1) (g1.symm.trans e1) (by omega) (by decide)
      subst w
      subst w2
      obtain ⟨r1, r2⟩ := ap_d (fou := fou) (b := 0) (hI.2.1) (hI.2.1) (Or.inl ⟨pw, ph, e2, e3, a0, a1, e2, e3, a2.2, a3.2, rfl, rfl⟩) (Or.inr (Or.inr ⟨b2, b3, b4, rfl⟩))
      exact ⟨r1, fun h => absurd (r1.trans h) (by decide), hI⟩
  · skip
    rcases h2 with ⟨o12, o22, pw2, ph2, g0, g1, b0, b1, b2, b3, b4, b5, b6, b7, b8, b9, b10, b11, rfl, rfl⟩ | ⟨b0, rfl, rfl⟩ | ⟨o12, o22, g0, g1, b0, b1, b2, rfl, rfl⟩ | ⟨o12, o22, g0, g1, b0, b1, b2, b3, b4, rfl, rfl⟩
    · have w := nI_inj (b := 1) (g0.symm.trans e0) (by omega) (by decide)
      have w2 := nI_inj (b := 2) (g1.symm.trans e1) (by omega) (by decide)
      subst w
      subst w2
      obtain ⟨r1, r2⟩ := ap_d (fou := fou) (hI.2.1) (hI.2.2.1) (Or.inl ⟨pw, ph, e2, e3, a0, a1, e4, e5, a2.2, a3.2, rfl, rfl⟩) (Or.inl ⟨pw2, ph2, b2, b3, b4, b5, b6, b7, b8.2, b9.2, rfl, rfl⟩)
      exact ⟨r1, r2, hI⟩
    · exact absurd (by rw [e0, e1]; decide) b0
    · have w := nI_inj (b := 1) (g0.symm.trans e0) (by omega) (by decide)
      have w2 := nI_inj (b := 2) (g1.symm.trans e1) (by omega) (by decide)
      subst w
      subst w2
      obtain ⟨r1, r2⟩ := ap_d (fou := fou) (b := 0) (hI.2.1) (hI.2.2.1) (Or.inl ⟨pw, ph, e2, e3, a0, a1, e4, e5, a2.2, a3.2, rfl, rfl⟩) (Or.inr (Or.inl ⟨b2, rfl⟩))
      exact ⟨r1, fun h => absurd (r1.trans h) (by decide), hI⟩
    · have w := nI_inj (b := 1) (g0.symm.trans e0) (by omega) (by decide)
      have w2 := nI_inj (b := 2) (g1.symm.trans e1) (by omega) (by decide)
      subst w
      subst w2
      obtain ⟨r1, r2⟩ := ap_d (fou := fou) (b := 0) (hI.2.1) (hI.2.2.1) (Or.inl ⟨pw, ph, e2, e3, a0, a1, e4, e5, a2.2, a3.2, rfl, rfl⟩) (Or.inr (Or.inr ⟨b2, b3, b4, rfl⟩))
      exact ⟨r1, fun h => absurd (r1.trans h) (by decide), hI⟩
  · skip
    rcases h2 with ⟨o12, o22, pw2, ph2, g0, g1, b0, b1, b2, b3, b4, b5, b6, b7, b8, b9, b10, b11, rfl, rfl⟩ | ⟨b0, rfl, rfl⟩ | ⟨o12, o22, g0, g1, b0, b1, b2, rfl, rfl⟩ | ⟨o12, o22, g0, g1, b0, b1, b2, b3, b4, rfl, rfl⟩
    · have w := nI_inj (b := 2) (g0.symm.trans e0) (by omega) (by decide)
      have w2 := nI_inj (b := 0) (g1.symm.trans e1) (by omega) (by decide)
      subst w
      subst w2
      obtain ⟨r1, r2⟩ := ap_d (fou := fou) (hI.2.2.1) (hI.1.pic) (Or.inl ⟨pw, ph, e2, e3, a0, a1, e4, e5, a2.2, a3.2, rfl, rfl⟩) (Or.inl ⟨pw2, ph2, b2, b3, b4, b5, b6, b7, b8.2, b9.2, rfl, rfl⟩)
      exact ⟨r1, r2, hI⟩
    · exact absurd (by rw [e0, e1]; decide) b0
    · have w := nI_inj (b := 2) (g0.symm.trans e0) (by omega) (by decide)
      have w2 := nI_inj (b := 0) (g1.symm.trans e1) (by omega) (by decide)
      subst w
      subst w2
      obtain ⟨r1, r2⟩ := ap_d (fou := fou) (b := 0) (hI.2.2.1) (hI.1.pic) (Or.inl ⟨pw, ph, e2, e3, a0, a1, e4, e5, a2.2, a3.2, rfl, rfl⟩) (Or.inr (Or.inl ⟨b2, rfl⟩))
      exact ⟨r1, fun h => absurd (r1.trans h) (by decide), hI⟩
    · have w := nI_inj (b := 2) (g0.symm.trans e0) (by omega) (by decide)
      have w2 := nI_inj (b := 0) (g1.symm.trans e1) (by omega) (by decide)
      subst w
      subst w2
      obtain ⟨r1, r2⟩ := ap_d (fou := fou) (b := 0) (hI.2.2.1) (hI.1.pic) (Or.inl ⟨pw, ph, e2, e3, a0, a1, e4, e5, a2.2, a3.2, rfl, rfl⟩) (Or.inr (Or.inr ⟨b2, b3, b4, rfl⟩))
      exact ⟨r1, fun h => absurd (r1.trans h) (by decide), hI⟩
  · skip
    rcases h2 with ⟨o12, o22, pw2, ph2, g0, g1, b0, b1, b2, b3, b4, b5, b6, b7, b8, b9, b10, b11, rfl, rfl⟩ | ⟨b0, rfl, rfl⟩ | ⟨o12, o22, g0, g1, b0, b1, b2, rfl, rfl⟩ | ⟨o12, o22, g0, g1, b0, b1, b2, b3, b4, rfl, rfl⟩
    · have w := nI_inj (b := 2) (g0.symm.trans e0) (by omega) (by decide)
      have w2 := nI_inj (b := 1) (g1.symm.trans e1) (by omega) (by decide)
      subst w
      subst w2
      obtain ⟨r1, r2⟩ := ap_d (fou := fou) (hI.2.2.1) (hI.2.1) (Or.inl ⟨pw, ph, e2, e3, a0, a1, e4, e5, a2.2, a3.2, rfl, rfl⟩) (Or.inl ⟨pw2, ph2, b2, b3, b4, b5, b6, b7, b8.2, b9.2, rfl, rfl⟩)
      exact ⟨r1, r2, hI⟩
    · exact absurd (by rw [e0, e1]; decide) b0
    · have w := nI_inj (b := 2) (g0.symm.trans e0) (by omega) (by decide)
      have w2 := nI_inj (b := 1) (g1.symm.trans e1) (by omega) (by decide)
      subst w
      subst w2
      obtain ⟨r1, r2⟩ := ap_d (fou := fou) (b := 0) (hI.2.2.1) (hI.2.1) (Or.inl ⟨pw, ph, e2, e3, a0, a1, e4, e5, a2.2, a3.2, rfl, rfl⟩) (Or.inr (Or.inl ⟨b2, rfl⟩))
      exact ⟨r1, fun h => absurd (r1.trans h) (by decide), hI⟩
    · have w := nI_inj (b := 2) (g0.symm.trans e0) (by omega) (by decide)
      have w2 := nI_inj (b := 1) (g1.symm.trans e1) (by omega) (by decide)
      subst w
      subst w2
      obtain ⟨r1, r2⟩ := ap_d (fou := fou) (b := 0) (hI.2.2.1) (hI.2.1) (Or.inl ⟨pw, ph, e2, e3, a0, a1, e4, e5, a2.2, a3.2, rfl, rfl⟩) (Or.inr (Or.inr ⟨b2, b3, b4, rfl⟩))
      exact ⟨r1, fun h => absurd (r1.trans h) (by decide), hI⟩
  · skip
    rcases h2 with ⟨o12, o22, pw2, ph2, g0, g1, b0, b1, b2, b3, b4, b5, b6, b7, b8, b9, b10, b11, rfl, rfl⟩ | ⟨b0, rfl, rfl⟩ | ⟨o12, o22, g0, g1, b0, b1, b2, rfl, rfl⟩ | ⟨o12, o22, g0, g1, b0, b1, b2, b3, b4, rfl, rfl⟩
    · have w := nI_inj (b := 2) (g0.symm.trans e0) (by omega) (by decide)
      have w2 := nI_inj (b := 2) (g1.symm.trans e1) (by omega) (by decide)
      subst w
      subst w2
      obtain ⟨r1, r2⟩ := ap_d (fou := fou) (hI.2.2.1) (hI.2.2.1) (Or.inl ⟨pw, ph, e2, e3, a0, a1, e2, e3, a2.2, a3.2, rfl, rfl⟩) (Or.inl ⟨pw2, ph2, b2, b3, b4, b5, b6, b7, b8.2, b9.2, rfl, rfl⟩)
      exact ⟨r1, r2, hI⟩
    · exact absurd (by rw [e0, e1]; decide) b0
    · have w := nI_inj (b := 2) (g0.symm.trans e0) (by omega) (by decide)
      have w2 := nI_inj (b := 2) (g1.symm.trans e1) (by omega) (by decide)
      subst w
      subst w2
      obtain ⟨r1, r2⟩ := ap_d (fou := fou) (b := 0) (hI.2.2.1) (hI.2.2.1) (Or.inl ⟨pw, ph, e2, e3, a0, a1, e2, e3, a2.2, a3.2, rfl, rfl⟩) (Or.inr (Or.inl ⟨b2, rfl⟩))
      exact ⟨r1, fun h => absurd (r1.trans h) (by decide), hI⟩
    · have w := nI_inj (b := 2) (g0.symm.trans e0) (by omega) (by decide)
      have w2 := nI_inj (b := 2) (g1.symm.trans e1) (by omega) (by decide)
      subst w
      subst w2
      obtain ⟨r1, r2⟩ := ap_d (fou := fou) (b := 0) (hI.2.2.1) (hI.2.2.1) (Or.inl ⟨pw, ph, e2, e3, a0, a1, e2, e3, a2.2, a3.2, rfl, rfl⟩) (Or.inr (Or.inr ⟨b2, b3, b4, rfl⟩))
      exact ⟨r1, fun h => absurd (r1.trans h) (by decide), hI⟩
  · skip
    replace u0 := u0.symm
    subst u0
    rcases h2 with ⟨o12, o22, pw2, ph2, g0, g1, b0, b1, b2, b3, b4, b5, b6, b7, b8, b9, b10, b11, rfl, rfl⟩ | ⟨b0, rfl, rfl⟩ | ⟨o12, o22, g0, g1, b0, b1, b2, rfl, rfl⟩ | ⟨o12, o22, g0, g1, b0, b1, b2, b3, b4, rfl, rfl⟩
    · exact absurd (by rw [g0, g1]; exact ⟨cs_ch b0, cs_ch b1⟩) a0
    · exact ⟨rfl, fun h => absurd h (by decide), hI⟩
    · exact absurd (by rw [g0, g1]; exact ⟨cs_ch b0, cs_ch b1⟩) a0
    · exact absurd (by rw [g0, g1]; exact ⟨cs_ch b0, cs_ch b1⟩) a0
  · skip
    replace u0 := u0.symm
    subst u0
    rcases h2 with ⟨o12, o22, pw2, ph2, g0, g1, b0, b1, b2, b3, b4, b5, b6, b7, b8, b9, b10, b11, rfl, rfl⟩ | ⟨b0, rfl, rfl⟩ | ⟨o12, o22, g0, g1, b0, b1, b2, rfl, rfl⟩ | ⟨o12, o22, g0, g1, b0, b1, b2, b3, b4, rfl, rfl⟩
    · have w := nI_inj (b := 0) (g0.symm.trans e0) (by omega) (by decide)
      have w2 := nI_inj (b := 0) (g1.symm.trans e1) (by omega) (by decide)
      subst w
      subst w2
      obtain ⟨r1, r2⟩ := ap_d (fou := fou) (fouN := fou) (hI.1.pic) (hI.1.pic) (Or.inr (Or.inl ⟨a0, rfl⟩)) (Or.inl ⟨pw2, ph2, b2, b3, b4, b5, b6, b7, b8.2, b9.2, rfl, rfl⟩)
      exact ⟨r1, fun h => absurd h (by decide), hI⟩
    · exact absurd (by rw [e0, e1]; decide) b0
    · have w := nI_inj (b := 0) (g0.symm.trans e0) (by omega) (by decide)
      have w2 := nI_inj (b := 0) (g1.symm.trans e1) (by omega) (by decide)
      subst w
      subst w2
      obtain ⟨r1, r2⟩ := ap_d (fou := fou) (fouN := fou) (b := 0) (hI.1.pic) (hI.1.pic) (Or.inr (Or.inl ⟨a0, rfl⟩)) (Or.inr (Or.inl ⟨b2, rfl⟩))
      exact ⟨r1, fun h => absurd h (by decide), hI⟩
    · have w := nI_inj (b := 0) (g0.symm.trans e0) (by omega) (by decide)
      have w2 := nI_inj (b := 0) (g1.symm.trans e1) (by omega) (by decide)
      subst w
      subst w2
      obtain ⟨r1, r2⟩ := ap_d (fou := fou) (fouN := fou) (b := 0) (hI.1.pic) (hI.1.pic) (Or.inr (Or.inl ⟨a0, rfl⟩)) (Or.inr (Or.inr ⟨b2, b3, b4, rfl⟩))
      exact ⟨r1, fun h => absurd h (by decide), hI⟩
  · skip
    replace u0 := u0.symm
    subst u0
    rcases h2 with ⟨o12, o22, pw2, ph2, g0, g1, b0, b1, b2, b3, b4, b5, b6, b7, b8, b9, b10, b11, rfl, rfl⟩ | ⟨b0, rfl, rfl⟩ | ⟨o12, o22, g0, g1, b0, b1, b2, rfl, rfl⟩ | ⟨o12, o22, g0, g1, b0, b1, b2, b3, b4, rfl, rfl⟩
    · have w := nI_inj (b := 0) (g0.symm.trans e0) (by omega) (by decide)
      have w2 := nI_inj (b := 1) (g1.symm.trans e1) (by omega) (by decide)
      subst w
      subst w2
      obtain ⟨r1, r2⟩ := ap_d (fou := fou) (fouN := fou) (hI.1.pic) (hI.2.1) (Or.inr (Or.inl ⟨a0, rfl⟩)) (Or.inl ⟨pw2, ph2, b2, b3, b4, b5, b6, b7, b8.2, b9.2, rfl, rfl⟩)
      exact ⟨r1, fun h => absurd h (by decide), hI⟩
    · exact absurd (by rw [e0, e1]; decide) b0
    · have w := nI_inj (b := 0) (g0.symm.trans e0) (by omega) (by decide)
      have w2 := nI_inj (b := 1) (g1.symm.trans e1) (by omega) (by decide)
      subst w
      subst w2
      obtain ⟨r1, r2⟩ := ap_d (fou := fou) (fouN := fou) (b := 0) (hI.1.pic) (hI.2.1) (Or.inr (Or.inl ⟨a0, rfl⟩)) (Or.inr (Or.inl ⟨b2, rfl⟩))
      exact ⟨r1, fun h => absurd h (by decide), hI⟩
    · have w := nI_inj (b := 0) (g0.symm.trans e0) (by omega) (by decide)
      have w2 := nI_inj (b := 1) (g1.symm.trans e1) (by omega) (by decide)
      subst w
      subst w2
      obtain ⟨r1, r2⟩ := ap_d (fou := fou) (fouN := fou) (b := 0) (hI.1.pic) (hI.2.1) (Or.inr (Or.inl ⟨a0, rfl⟩)) (Or.inr (Or.inr ⟨b2, b3, b4, rfl⟩))
      exact ⟨r1, fun h => absurd h (by decide), hI⟩
  · skip
    replace u0 := u0.symm
    subst u0
    rcases h2 with ⟨o12, o22, pw2, ph2, g0, g1, b0, b1, b2, b3, b4, b5, b6, b7, b8, b9, b10, b11, rfl, rfl⟩ | ⟨b0, rfl, rfl⟩ | ⟨o12, o22, g0, g1, b0, b1, b2, rfl, rfl⟩ | ⟨o12, o22, g0, g1, b0, b1, b2, b3, b4, rfl, rfl⟩
    · have w := nI_inj (b := 0) (g0.symm.trans e0) (by omega) (by decide)
      have w2 := nI_inj (b := 1) (g1.symm.trans e1) (by omega) (by decide)
      subst w
      subst w2
      obtain ⟨r1, r2⟩ := ap_d (fou := fou) (fouN := fou) (hI.1.pic) (hI.2.1) (Or.inr (Or.inr ⟨a0, a1, a2, rfl⟩)) (Or.inl ⟨pw2, ph2, b2, b3, b4, b5, b6, b7, b8.2, b9.2, rfl, rfl⟩)
      exact ⟨r1, fun h => absurd h (by decide), hI⟩
    · exact absurd (by rw [e0, e1]; decide) b0
    · have w := nI_inj (b := 0) (g0.symm.trans e0) (by omega) (by decide)
      have w2 := nI_inj (b := 1) (g1.symm.trans e1) (by omega) (by decide)
      subst w
      subst w2
      obtain ⟨r1, r2⟩ := ap_d (fou := fou) (fouN := fou) (b := 0) (hI.1.pic) (hI.2.1) (Or.inr (Or.inr ⟨a0, a1, a2, rfl⟩)) (Or.inr (Or.inl ⟨b2, rfl⟩))
      exact ⟨r1, fun h => absurd h (by decide), hI⟩
    · have w := nI_inj (b := 0) (g0.symm.trans e0) (by omega) (by decide)
      have w2 := nI_inj (b := 1) (g1.symm.trans e1) (by omega) (by decide)
      subst w
      subst w2
      obtain ⟨r1, r2⟩ := ap_d (fou := fou) (fouN := fou) (b := 0) (hI.1.pic) (hI.2.1) (Or.inr (Or.inr ⟨a0, a1, a2, rfl⟩)) (Or.inr (Or.inr ⟨b2, b3, b4, rfl⟩))
      exact ⟨r1, fun h => absurd h (by decide), hI⟩
  · skip
    replace u0 := u0.symm
    subst u0
    rcases h2 with ⟨o12, o22, pw2, ph2, g0, g1, b0, b1, b2, b3, b4, b5, b6, b7, b8, b9, b10, b11, rfl, rfl⟩ | ⟨b0, rfl, rfl⟩ | ⟨o12, o22, g0, g1, b0, b1, b2, rfl, rfl⟩ | ⟨o12, o22, g0, g1, b0, b1, b2, b3, b4, rfl, rfl⟩
    · have w := nI_inj (b := 0) (g0.symm.trans e0) (by omega) (by decide)
      have w2 := nI_inj (b := 2) (g1.symm.trans e1) (by omega) (by decide)
      subst w
      subst w2
      obtain ⟨r1, r2⟩ := ap_d (fou := fou) (fouN := fou) (hI.1.pic) (hI.2.2.1) (Or.inr (Or.inl ⟨a0, rfl⟩)) (Or.inl ⟨pw2, ph2, b2, b3, b4, b5, b6, b7, b8.2, b9.2, rfl, rfl⟩)
      exact ⟨r1, fun h => absurd h (by decide), hI⟩
    · exact absurd (by rw [e0, e1]; decide) b0
    · have w := nI_inj (b := 0) (g0.symm.trans e0) (by omega) (by decide)
      have w2 := nI_inj (b := 2) (g1.symm.trans e1) (by omega) (by decide)
      subst w
      subst w2
      obtain ⟨r1, r2⟩ := ap_d (fou := fou) (fouN := fou) (b := 0) (hI.1.pic) (hI.2.2.1) (Or.inr (Or.inl ⟨a0, rfl⟩)) (Or.inr (Or.inl ⟨b2, rfl⟩))
      exact ⟨r1, fun h => absurd h (by decide), hI⟩
    · have w := nI_inj (b := 0) (g0.symm.trans e0) (by omega) (by decide)
      have w2 := nI_inj (b := 2) (g1.symm.trans e1) (by omega) (by decide)
      subst w
      subst w2
      obtain ⟨r1, r2⟩ := ap_d (fou := fou) (fouN := fou) (b := 0) (hI.1.pic) (hI.2.2.1) (Or.inr (Or.inl ⟨a0, rfl⟩)) (Or.inr (Or.inr ⟨b2, b3, b4, rfl⟩))
      exact ⟨r1, fun h => absurd h (by decide), hI⟩
  · skip
    replace u0 := u0.symm
    subst u0
    rcases h2 with ⟨o12, o22, pw2, ph2, g0, g1, b0, b1, b2, b3, b4, b5, b6, b7, b8, b9, b10, b11, rfl, rfl⟩ | ⟨b0, rfl, rfl⟩ | ⟨o12, o22, g0, g1, b0, b1, b2, rfl, rfl⟩ | ⟨o12, o22, g0, g1, b0, b1, b2, b3, b4, rfl, rfl⟩
    · have w := nI_inj (b := 0) (g0.symm.trans e0) (by omega) (by decide)
      have w2 := nI_inj (b := 2) (g1.symm.trans e1) (by omega) (by decide)
      subst w
      subst w2
      obtain ⟨r1, r2⟩ := ap_d (fou := fou) (fouN := fou) (hI.1.pic) (hI.2.2.1) (Or.inr (Or.inr ⟨a0, a1, a2, rfl⟩)) (Or.inl ⟨pw2, ph2, b2, b3, b4, b5, b6, b7, b8.2, b9.2, rfl, rfl⟩)
      exact ⟨r1, fun h => absurd h (by decide), hI⟩
    · exact absurd (by rw [e0, e1]; decide) b0
    · have w := nI_inj (b := 0) (g0.symm.trans e0) (by omega) (by decide)
      have w2 := nI_inj (b := 2) (g1.symm.trans e1) (by omega) (by decide)
      subst w
      subst w2
      obtain ⟨r1, r2⟩ := ap_d (fou := fou) (fouN := fou) (b := 0) (hI.1.pic) (hI.2.2.1) (Or.inr (Or.inr ⟨a0, a1, a2, rfl⟩)) (Or.inr (Or.inl ⟨b2, rfl⟩))
      exact ⟨r1, fun h => absurd h (by decide), hI⟩
    · have w := nI_inj (b := 0) (g0.symm.trans e0) (by omega) (by decide)
      have w2 := nI_inj (b := 2) (g1.symm.trans e1) (by omega) (by decide)
      subst w
      subst w2
      obtain ⟨r1, r2⟩ := ap_d (fou := fou) (fouN := fou) (b := 0) (hI.1.pic) (hI.2.2.1) (Or.inr (Or.inr ⟨a0, a1, a2, rfl⟩)) (Or.inr (Or.inr ⟨b2, b3, b4, rfl⟩))
      exact ⟨r1, fun h => absurd h (by decide), hI⟩
  · skip
    replace u0 := u0.symm
    subst u0
    rcases h2 with ⟨o12, o22, pw2, ph2, g0, g1, b0, b1, b2, b3, b4, b5, b6, b7, b8, b9, b10, b11, rfl, rfl⟩ | ⟨b0, rfl, rfl⟩ | ⟨o12, o22, g0, g1, b0, b1, b2, rfl, rfl⟩ | ⟨o12, o22, g0, g1, b0, b1, b2, b3, b4, rfl, rfl⟩
    · have w := nI_inj (b := 1) (g0.symm.trans e0) (by omega) (by decide)
      have w2 := nI_inj (b := 0) (g1.symm.trans e1) (by omega) (by decide)
      subst w
      subst w2
      obtain ⟨r1, r2⟩ := ap_d (fou := fou) (fouN := fou) (hI.2.1) (hI.1.pic) (Or.inr (Or.inl ⟨a0, rfl⟩)) (Or.inl ⟨pw2, ph2, b2, b3, b4, b5, b6, b7, b8.2, b9.2, rfl, rfl⟩)
      exact ⟨r1, fun h => absurd h (by decide), hI⟩
    · exact absurd (by rw [e0, e1]; decide) b0
    · have w := nI_inj (b := 1) (g0.symm.trans e0) (by omega) (by decide)
      have w2 := nI_inj (b := 0) (g1.symm.trans e1) (by omega) (by decide)
      subst w
      subst w2
      obtain ⟨r1, r2⟩ := ap_d (fou := fou) (fouN := fou) (b := 0) (hI.2.1) (hI.1.pic) (Or.inr (Or.inl ⟨a0, rfl⟩)) (Or.inr (Or.inl ⟨b2, rfl⟩))
      exact ⟨r1, fun h => absurd h (by decide), hI⟩
    · have w := nI_inj (b := 1) (g0.symm.trans e0) (by omega) (by decide)
      have w2 := nI_inj (b := 0) (g1.symm.trans e1) (by omega) (by decide)
      subst w
      subst w2
      obtain ⟨r1, r2⟩ := ap_d (fou := fou) (fouN := fou) (b := 0) (hI.2.1) (hI.1.pic) (Or.inr (Or.inl ⟨a0, rfl⟩)) (Or.inr (Or.inr ⟨b2, b3, b4, rfl⟩))
      exact ⟨r1, fun h => absurd h (by decide), hI⟩
  · skip
    replace u0 := u0.symm
    subst u0
    rcases h2 with ⟨o12, o22, pw2, ph2, g0, g1, b0, b1, b2, b3, b4, b5, b6, b7, b8, b9, b10, b11, rfl, rfl⟩ | ⟨b0, rfl, rfl⟩ | ⟨o12, o22, g0, g1, b0, b1, b2, rfl, rfl⟩ | ⟨o12, o22, g0, g1, b0, b1, b2, b3, b4, rfl, rfl⟩
    · have w := nI_inj (b := 1) (g0.symm.trans e0) (by omega) (by decide)
      have w2 := nI_inj (b := 0) (g1.symm.trans e1) (by omega) (by decide)
      subst w
      subst w2
      obtain ⟨r1, r2⟩ := ap_d (fou := fou) (fouN := fou) (hI.2.1) (hI.1.pic) (Or.inr (Or.inr ⟨a0, a1, a2, rfl⟩)) (Or.inl ⟨pw2, ph2, b2, b3, b4, b5, b6, b7, b8.2, b9.2, rfl, rfl⟩)
      exact ⟨r1, fun h => absurd h (by decide), hI⟩
    · exact absurd (by rw [e0, e1]; decide) b0
    · have w := nI_inj (b := 1) (g0.symm.trans e0) (by omega) (by decide)
      have w2 := nI_inj (b := 0) (g1.symm.trans e1) (by omega) (by decide)
      subst w
      subst w2
      obtain ⟨r1, r2⟩ := ap_d (fou := fou) (fouN := fou) (b := 0) (hI.2.1) (hI.1.pic) (Or.inr (Or.inr ⟨a0, a1, a2, rfl⟩)) (Or.inr (Or.inl ⟨b2, rfl⟩))
      exact ⟨r1, fun h => absurd h (by decide), hI⟩
    · have w := nI_inj (b := 1) (g0.symm.trans e0) (by omega) (by decide)
      have w2 := nI_inj (b := 0) (g1.symm.trans e1) (by omega) (by decide)
      subst w
      subst w2
      obtain ⟨r1, r2⟩ := ap_d (fou := fou) (fouN := fou) (b := 0) (hI.2.1) (hI.1.pic) (Or.inr (Or.inr ⟨a0, a1, a2, rfl⟩)) (Or.inr (Or.inr ⟨b2, b3, b4, rfl⟩))
      exact ⟨r1, fun h => absurd h (by decide), hI⟩
  · skip
    replace u0 := u0.symm
    subst u0
    rcases h2 with ⟨o12, o22, pw2, ph2, g0, g1, b0, b1, b2, b3, b4, b5, b6, b7, b8, b9, b10, b11, rfl, rfl⟩ | ⟨b0, rfl, rfl⟩ | ⟨o12, o22, g0, g1, b0, b1, b2, rfl, rfl⟩ | ⟨o12, o22, g0, g1, b0, b1, b2, b3, b4, rfl, rfl⟩
    · have w := nI_inj (b := 1) (g0.symm.trans e0) (by omega) (by decide)
      have w2 := nI_inj (b := 1) (g1.symm.trans e1) (by omega) (by decide)
      subst w
      subst w2
      obtain ⟨r1, r2⟩ := ap_d (fou := fou) (fouN := fou) (hI.2.1) (hI.2.1) (Or.inr (Or.inl ⟨a0, rfl⟩)) (Or.inl ⟨pw2, ph2, b2, b3, b4, b5, b6, b7, b8.2, b9.2, rfl, rfl⟩)
      exact ⟨r1, fun h => absurd h (by decide), hI⟩
    · exact absurd (by rw [e0, e1]; decide) b0
    · have w := nI_inj (b := 1) (g0.symm.trans e0) (by omega) (by decide)
      have w2 := nI_inj (b := 1) (g1.symm.trans e1) (by omega) (by decide)
      subst w
      subst w2
      obtain ⟨r1, r2⟩ := ap_d (fou := fou) (fouN := fou) (b := 0) (hI.2.1) (hI.2.1) (Or.inr (Or.inl ⟨a0, rfl⟩)) (Or.inr (Or.inl ⟨b2, rfl⟩))
      exact ⟨r1, fun h => absurd h (by decide), hI⟩
    · have w := nI_inj (b := 1) (g0.symm.trans e0) (by omega) (by decide)
      have w2 := nI_inj (b := 1) (g1.symm.trans e1) (by omega) (by decide)
      subst w
      subst w2
      obtain ⟨r1, r2⟩ := ap_d (fou := fou) (fouN := fou) (b := 0) (hI.2.1) (hI.2.1) (Or.inr (Or.inl ⟨a0, rfl⟩)) (Or.inr (Or.inr ⟨b2, b3, b4, rfl⟩))
      exact ⟨r1, fun h => absurd h (by decide), hI⟩
  · skip
    replace u0 := u0.symm
    subst u0
    rcases h2 with ⟨o12, o22, pw2, ph2, g0, g1, b0, b1, b2, b3, b4, b5, b6, b7, b8, b9, b10, b11, rfl, rfl⟩ | ⟨b0, rfl, rfl⟩ | ⟨o12, o22, g0, g1, b0, b1, b2, rfl, rfl⟩ | ⟨o12, o22, g0, g1, b0, b1, b2, b3, b4, rfl, rfl⟩
    · have w := nI_inj (b := 1) (g0.symm.trans e0) (by omega) (by decide)
      have w2 := nI_inj (b := 2) (g1.symm.trans e1) (by omega) (by decide)
      subst w
      subst w2
      obtain ⟨r1, r2⟩ := ap_d (fou := fou) (fouN := fou) (hI.2.1) (hI.2.2.1) (Or.inr (Or.inl ⟨a0, rfl⟩)) (Or.inl ⟨pw2, ph2, b2, b3, b4, b5, b6, b7, b8.2, b9.2, rfl, rfl⟩)
      exact ⟨r1, fun h => absurd h (by decide), hI⟩
    · exact absurd (by rw [e0, e1]; decide) b0
    · have w := nI_inj (b := 1) (g0.symm.trans e0) (by omega) (by decide)
      have w2 := nI_inj (b := 2) (g1.symm.trans e1) (by omega) (by decide)
      subst w
      subst w2
      obtain ⟨r1, r2⟩ := ap_d (fou := fou) (fouN := fou) (b := 0) (hI.2.1) (hI.2.2.1) (Or.inr (Or.inl ⟨a0, rfl⟩)) (Or.inr (Or.inl ⟨b2, rfl⟩))
      exact ⟨r1, fun h => absurd h (by decide), hI⟩
    · have w := nI_inj (b := 1) (g0.symm.trans e0) (by omega) (by decide)
      have w2 := nI_inj (b := 2) (g1.symm.trans e1) (by omega) (by decide)
      subst w
      subst w2
      obtain ⟨r1, r2⟩ := ap_d (fou := fou) (fouN := fou) (b := 0) (hI.2.1) (hI.2.2.1) (Or.inr (Or.inl ⟨a0, rfl⟩)) (Or.inr (Or.inr ⟨b2, b3, b4, rfl⟩))
      exact ⟨r1, fun h => absurd h (by decide), hI⟩
  · skip
    replace u0 := u0.symm
    subst u0
    rcases h2 with ⟨o12, o22, pw2, ph2, g0, g1, b0, b1, b2, b3, b4, b5, b6, b7, b8, b9, b10, b11, rfl, rfl⟩ | ⟨b0, rfl, rfl⟩ | ⟨o12, o22, g0, g1, b0, b1, b2, rfl, rfl⟩ | ⟨o12, o22, g0, g1, b0, b1, b2, b3, b4, rfl, rfl⟩
    · have w := nI_inj (b := 1) (g0.symm.trans e0) (by omega) (by decide)
      have w2 := nI_inj (b := 2) (g1.symm.trans e1) (by omega) (by decide)
      subst w
      subst w2
      obtain ⟨r1, r2⟩ := ap_d (fou := fou) (fouN := fou) (hI.2.1) (hI.2.2.1) (Or.inr (Or.inr ⟨a0, a1, a2, rfl⟩)) (Or.inl ⟨pw2, ph2, b2, b3, b4, b5, b6, b7, b8.2, b9.2, rfl, rfl⟩)
      exact ⟨r1, fun h => absurd h (by decide), hI⟩
    · exact absurd (by rw [e0, e1]; decide) b0
    · have w := nI_inj (b := 1) (g0.symm.trans e0) (by omega) (by decide)
      have w2 := nI_inj (b := 2) (g1.symm.trans e1) (by omega) (by decide)
      subst w
      subst w2
      obtain ⟨r1, r2⟩ := ap_d (fou := fou) (fouN := fou) (b := 0) (hI.2.1) (hI.2.2.1) (Or.inr (Or.inr ⟨a0, a1, a2, rfl⟩)) (Or.inr (Or.inl ⟨b2, rfl⟩))
      exact ⟨r1, fun h => absurd h (by decide), hI⟩
    · have w := nI_inj (b := 1) (g0.symm.trans e0) (by omega) (by decide)
      have w2 := nI_inj (b := 2) (g1.symm.trans e1) (by omega) (by decide)
      subst w
      subst w2
      obtain ⟨r1, r2⟩ := ap_d (fou := fou) (fouN := fou) (b := 0) (hI.2.1) (hI.2.2.1) (Or.inr (Or.inr ⟨a0, a1, a2, rfl⟩)) (Or.inr (Or.inr ⟨b2, b3, b4, rfl⟩))
      exact ⟨r1, fun h => absurd h (by decide), hI⟩
  · skip
    replace u0 := u0.symm
    subst u0
    rcases h2 with ⟨o12, o22, pw2, ph2, g0, g1, b0, b1, b2, b3, b4, b5, b6, b7, b8, b9, b10, b11, rfl, rfl⟩ | ⟨b0, rfl, rfl⟩ | ⟨o12, o22, g0, g1, b0, b1, b2, rfl, rfl⟩ | ⟨o12, o22, g0, g1, b0, b1, b2, b3, b4, rfl, rfl⟩
    · have w := nI_inj (b := 2) (g0.symm.trans e0) (by omega) (by decide)
      have w2 := nI_inj (b := 0) (g1.symm.trans e1) (by omega) (by decide)
      subst w
      subst w2
      obtain ⟨r1, r2⟩ := ap_d (fou := fou) (fouN := fou) (hI.2.2.1) (hI.1.pic) (Or.inr (Or.inl ⟨a0, rfl⟩)) (Or.inl ⟨pw2, ph2, b2, b3, b4, b5, b6, b7, b8.2, b9.2, rfl, rfl⟩)
      exact ⟨r1, fun h => absurd h (by decide), hI⟩
    · exact absurd (by rw [e0, e1]; decide) b0
    · have w := nI_inj (b := 2) (g0.symm.trans e0) (by omega) (by decide)
      have w2 := nI_inj (b := 0) (g1.symm.trans e1) (by omega) (by decide)
      subst w
      subst w2
      obtain ⟨r1, r2⟩ := ap_d (fou := fou) (fouN := fou) (b := 0) (hI.2.2.1) (hI.1.pic) (Or.inr (Or.inl ⟨a0, rfl⟩)) (Or.inr (Or.inl ⟨b2, rfl⟩))
      exact ⟨r1, fun h => absurd h (by decide), hI⟩
    · have w := nI_inj (b := 2) (g0.symm.trans e0) (by omega) (by decide)
      have w2 := nI_inj (b := 0) (g1.symm.trans e1) (by omega) (by decide)
      subst w
      subst w2
      obtain ⟨r1, r2⟩ := ap_d (fou := fou) (fouN := fou) (b := 0) (hI.2.2.1) (hI.1.pic) (Or.inr (Or.inl ⟨a0, rfl⟩)) (Or.inr (Or.inr ⟨b2, b3, b4, rfl⟩))
      exact ⟨r1, fun h => absurd h (by decide), hI⟩
  · skip
    replace u0 := u0.symm
    subst u0
    rcases h2 with ⟨o12, o22, pw2, ph2, g0, g1, b0, b1, b2, b3, b4, b5, b6, b7, b8, b9, b10, b11, rfl, rfl⟩ | ⟨b0, rfl, rfl⟩ | ⟨o12, o22, g0, g1, b0, b1, b2, rfl, rfl⟩ | ⟨o12, o22, g0, g1, b0, b1, b2, b3, b4, rfl, rfl⟩
    · have w := nI_inj (b := 2) (g0.symm.trans e0) (by omega) (by decide)
      have w2 := nI_inj (b := 0) (g1.symm.trans e1) (by omega) (by decide)
      subst w
      subst w2
      obtain ⟨r1, r2⟩ := ap_d (fou := fou) (fouN := fou) (hI.2.2.1) (hI.1.pic) (Or.inr (Or.inr ⟨a0, a1, a2, rfl⟩)) (Or.inl ⟨pw2, ph2, b2, b3, b4, b5, b6, b7, b8.2, b9.2, rfl, rfl⟩)
      exact ⟨r1, fun h => absurd h (by decide), hI⟩
    · exact absurd (by rw [e0, e1]; decide) b0
    · have w := nI_inj (b := 2) (g0.symm.trans e0) (by omega) (by decide)
      have w2 := nI_inj (b := 0) (g1.symm.trans e1) (by omega) (by decide)
      subst w
      subst w2
      obtain ⟨r1, r2⟩ := ap_d (fou := fou) (fouN := fou) (b := 0) (hI.2.2.1) (hI.1.pic) (Or.inr (Or.inr ⟨a0, a1, a2, rfl⟩)) (Or.inr (Or.inl ⟨b2, rfl⟩))
      exact ⟨r1, fun h => absurd h (by decide), hI⟩
    · have w := nI_inj (b := 2) (g0.symm.trans e0) (by omega) (by decide)
      have w2 := nI_inj (b := 0) (g1.symm.trans e1) (by omega) (by decide)
      subst w
      subst w2
      obtain ⟨r1, r2⟩ := ap_d (fou := fou) (fouN := fou) (b := 0) (hI.2.2.1) (hI.1.pic) (Or.inr (Or.inr ⟨a0, a1, a2, rfl⟩)) (Or.inr (Or.inr ⟨b2, b3, b4, rfl⟩))
      exact ⟨r1, fun h => absurd h (by decide), hI⟩
  · skip
    replace u0 := u0.symm
    subst u0
    rcases h2 with ⟨o12, o22, pw2, ph2, g0, g1, b0, b1, b2, b3, b4, b5, b6, b7, b8, b9, b10, b11, rfl, rfl⟩ | ⟨b0, rfl, rfl⟩ | ⟨o12, o22, g0, g1, b0, b1, b2, rfl, rfl⟩ | ⟨o12, o22, g0, g1, b0, b1, b2, b3, b4, rfl, rfl⟩
    · have w := nI_inj (b := 2) (g0.symm.trans e0) (by omega) (by decide)
      have w2 := nI_inj (b := 1) (g1.symm.trans e1) (by omega) (by decide)
      subst w
      subst w2
      obtain ⟨r1, r2⟩ := ap_d (fou := fou) (fouN := fou) (hI.2.2.1) (hI.2.1) (Or.inr (Or.inl ⟨a0, rfl⟩)) (Or.inl ⟨pw2, ph2, b2, b3, b4, b5, b6, b7, b8.2, b9.2, rfl, rfl⟩)
      exact ⟨r1, fun h => absurd h (by decide), hI⟩
    · exact absurd (by rw [e0, e1]; decide) b0
    · have w := nI_inj (b := 2) (g0.symm.trans e0) (by omega) (by decide)
      have w2 := nI_inj (b := 1) (g1.symm.trans e1) (by omega) (by decide)
      subst w
      subst w2
      obtain ⟨r1, r2⟩ := ap_d (fou := fou) (fouN := fou) (b := 0) (hI.2.2.1) (hI.2.1) (Or.inr (Or.inl ⟨a0, rfl⟩)) (Or.inr (Or.inl ⟨b2, rfl⟩))
      exact ⟨r1, fun h => absurd h (by decide), hI⟩
    · have w := nI_inj (b := 2) (g0.symm.trans e0) (by omega) (by decide)
      have w2 := nI_inj (b := 1) (g1.symm.trans e1) (by omega) (by decide)
      subst w
      subst w2
      obtain ⟨r1, r2⟩ := ap_d (fou := fou) (fouN := fou) (b := 0) (hI.2.2.1) (hI.2.1) (Or.inr (Or.inl ⟨a0, rfl⟩)) (Or.inr (Or.inr ⟨b2, b3, b4, rfl⟩))
      exact ⟨r1, fun h => absurd h (by decide), hI⟩
  · skip
    replace u0 := u0.symm
    subst u0
    rcases h2 with ⟨o12, o22, pw2, ph2, g0, g1, b0, b1, b2, b3, b4, b5, b6, b7, b8, b9, b10, b11, rfl, rfl⟩ | ⟨b0, rfl, rfl⟩ | ⟨o12, o22, g0, g1, b0, b1, b2, rfl, rfl⟩ | ⟨o12, o22, g0, g1, b0, b1, b2, b3, b4, rfl, rfl⟩
    · have w := nI_inj (b := 2) (g0.symm.trans e0) (by omega) (by decide)
      have w2 := nI_inj (b := 1) (g1.symm.trans e1) (by omega) (by decide)
      subst w
      subst w2
      obtain ⟨r1, r2⟩ := ap_d (fou := fou) (fouN := fou) (hI.2.2.1) (hI.2.1) (Or.inr (Or.inr ⟨a0, a1, a2, rfl⟩)) (Or.inl ⟨pw2, ph2, b2, b3, b4, b5, b6, b7, b8.2, b9.2, rfl, rfl⟩)
      exact ⟨r1, fun h => absurd h (by decide), hI⟩
    · exact absurd (by rw [e0, e1]; decide) b0
    · have w := nI_inj (b := 2) (g0.symm.trans e0) (by omega) (by decide)
      have w2 := nI_inj (b := 1) (g1.symm.trans e1) (by omega) (by decide)
      subst w
      subst w2
      obtain ⟨r1, r2⟩ := ap_d (fou := fou) (fouN := fou) (b := 0) (hI.2.2.1) (hI.2.1) (Or.inr (Or.inr ⟨a0, a1, a2, rfl⟩)) (Or.inr (Or.inl ⟨b2, rfl⟩))
      exact ⟨r1, fun h => absurd h (by decide), hI⟩
    · have w := nI_inj (b := 2) (g0.symm.trans e0) (by omega) (by decide)
      have w2 := nI_inj (b := 1) (g1.symm.trans e1) (by omega) (by decide)
      subst w
      subst w2
      obtain ⟨r1, r2⟩ := ap_d (fou := fou) (fouN := fou) (b := 0) (hI.2.2.1) (hI.2.1) (Or.inr (Or.inr ⟨a0, a1, a2, rfl⟩)) (Or.inr (Or.inr ⟨b2, b3, b4, rfl⟩))
      exact ⟨r1, fun h => absurd h (by decide), hI⟩
  · skip
    replace u0 := u0.symm
    subst u0
    rcases h2 with ⟨o12, o22, pw2, ph2, g0, g1, b0, b1, b2, b3, b4, b5, b6, b7, b8, b9, b10, b11, rfl, rfl⟩ | ⟨b0, rfl, rfl⟩ | ⟨o12, o22, g0, g1, b0, b1, b2, rfl, rfl⟩ | ⟨o12, o22, g0, g1, b0, b1, b2, b3, b4, rfl, rfl⟩
    · have w := nI_inj (b := 2) (g0.symm.trans e0) (by omega) (by decide)
      have w2 := nI_inj (b := 2) (g1.symm.trans e1) (by omega) (by decide)
      subst w
      subst w2
      obtain ⟨r1, r2⟩ := ap_d (fou := fou) (fouN := fou) (hI.2.2.1) (hI.2.2.1) (Or.inr (Or.inl ⟨a0, rfl⟩)) (Or.inl ⟨pw2, ph2, b2, b3, b4, b5, b6, b7, b8.2, b9.2, rfl, rfl⟩)
      exact ⟨r1, fun h => absurd h (by decide), hI⟩
    · exact absurd (by rw [e0, e1]; decide) b0
    · have w := nI_inj (b := 2) (g0.symm.trans e0) (by omega) (by decide)
      have w2 := nI_inj (b := 2) (g1.symm.trans e1) (by omega) (by decide)
      subst w
      subst w2
      obtain ⟨r1, r2⟩ := ap_d (fou := fou) (fouN := fou) (b := 0) (hI.2.2.1) (hI.2.2.1) (Or.inr (Or.inl ⟨a0, rfl⟩)) (Or.inr (Or.inl ⟨b2, rfl⟩))
      exact ⟨r1, fun h => absurd h (by decide), hI⟩
    · have w := nI_inj (b := 2) (g0.symm.trans e0) (by omega) (by decide)
      have w2 := nI_inj (b := 2) (g1.symm.trans e1) (by omega) (by decide)
      subst w
      subst w2
      obtain ⟨r1, r2⟩ := ap_d (fou := fou) (fouN := fou) (b := 0) (hI.2.2.1) (hI.2.2.1) (Or.inr (Or.inl ⟨a0, rfl⟩)) (Or.inr (Or.inr ⟨b2, b3, b4, rfl⟩))
      exact ⟨r1, fun h => absurd h (by decide), hI⟩
