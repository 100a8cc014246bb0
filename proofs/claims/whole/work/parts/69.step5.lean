set_option maxHeartbeats 2000000 in
theorem p_get {px : Nat → Int32} {vz : Int32} {vw : Int32} {vh : Int32} {pxc : Nat → Int32} {mdc : Nat → Int32} {vzc : Int32} {vwc : Int32} {vhc : Int32} {vkc : Int32} {pxr : Nat → Int32} {mdr : Nat → Int32} {vzr : Int32} {vwr : Int32} {vhr : Int32} {vkr : Int32} {yt : Nat → Int32} {yl : Nat} {ibc : Int32} {ilc : Int32} {igl : Int32} {ibk : Int32} {ifa : Int32} {ibd : Int32} {wd : Nat → Int32} {hg : Nat → Int32} {pix : Nat → Int32} {str : Nat → Int32} {mds : Nat → Int32} {thr : Nat → Int32} {isz : Int32} {ibl : Int32} {ile : Int32} {igr : Int32} {mbk : Int32} {ist : Int32} {ibr : Int32} {fou : Nat → Int64} {i1 : Int32} {i2 : Int32} {i3 : Int32} {fouN : Nat → Int64} {ithN : Int32} {k : Int32} {bb : Int32} (hI : INV px vz vw vh pxc mdc vzc vwc vhc vkc pxr mdr vzr vwr vhr vkr yt yl ibc ilc igl ibk ifa ibd wd hg pix str mds thr isz ibl ile igr mbk ist ibr) (h1 : rx_get vz vw vh px vzc vwc vhc pxc vzr vwr vhr pxr fou i1 i2 i3 fouN k) (h2 : rm_get wd hg pix thr i1 i2 i3 ithN bb) : ithN = k ∧ (k = 0 → fouN 0 = Int32.toInt64 bb) ∧ INV px vz vw vh pxc mdc vzc vwc vhc vkc pxr mdr vzr vwr vhr vkr yt yl ibc ilc igl ibk ifa ibd wd hg pix str mds thr isz ibl ile igr mbk ist ibr := by
  have hI0 := hI
  obtain ⟨⟨z0, t0, ⟨cw0, ch0, hcw0, hch0, ew, eh, mw, mh⟩, hpx⟩, A1, A2, B1, B2, ⟨es, hyl, hyt⟩, ⟨q1, q2, q3, q4, q5⟩, hPX⟩ := hI0
  unfold rx_get at h1
  unfold rm_get at h2
  rcases h1 with ⟨x, y, e0, e1, e2, a0, a1, a2, a3, a4, rfl, rfl⟩ | ⟨x, y, e0, e1, e2, a0, a1, a2, a3, a4, rfl, rfl⟩ | ⟨x, y, e0, e1, e2, a0, a1, a2, a3, a4, rfl, rfl⟩ | ⟨a0, rfl, u0⟩ | ⟨e0, a0, rfl, u0⟩ | ⟨e0, a0, a1, rfl, u0⟩ | ⟨e0, a0, rfl, u0⟩ | ⟨e0, a0, a1, rfl, u0⟩ | ⟨e0, a0, rfl, u0⟩ | ⟨e0, a0, a1, rfl, u0⟩
  · skip
    rcases h2 with ⟨o2, x2, y2, pw2, ph2, g0, g1, g2, b0, b1, b2, b3, b4, b5, b6, b7, rfl, rfl⟩ | ⟨b0, rfl, rfl⟩ | ⟨o2, g0, b0, b1, rfl, rfl⟩ | ⟨o2, g0, b0, b1, b2, rfl, rfl⟩
    · have w := nI_inj (b := 0) (g0.symm.trans e0) (by omega) (by decide)
      subst w
      obtain ⟨r1, r2⟩ := gt_d (i2 := i2) (i3 := i3) (fou := fou) (hI.1.pic) (Or.inl ⟨x, y, e1, e2, a0, a1, a2, a3, a4, rfl, rfl⟩) (Or.inl ⟨x2, y2, pw2, ph2, g1, g2, b1, b2, b3, b4, b5, b6, b7, rfl, rfl⟩)
      exact ⟨r1, r2, hI⟩
    · exact absurd (by rw [e0]; decide) b0
    · have w := nI_inj (b := 0) (g0.symm.trans e0) (by omega) (by decide)
      subst w
      obtain ⟨r1, r2⟩ := gt_d (i2 := i2) (i3 := i3) (fou := fou) (b := 0) (hI.1.pic) (Or.inl ⟨x, y, e1, e2, a0, a1, a2, a3, a4, rfl, rfl⟩) (Or.inr (Or.inl ⟨b1, rfl⟩))
      exact ⟨r1, fun h => absurd (r1.trans h) (by decide), hI⟩
    · have w := nI_inj (b := 0) (g0.symm.trans e0) (by omega) (by decide)
      subst w
      obtain ⟨r1, r2⟩ := gt_d (i2 := i2) (i3 := i3) (fou := fou) (b := 0) (hI.1.pic) (Or.inl ⟨x, y, e1, e2, a0, a1, a2, a3, a4, rfl, rfl⟩) (Or.inr (Or.inr ⟨b1, b2, rfl⟩))
      exact ⟨r1, fun h => absurd (r1.trans h) (by decide), hI⟩
  · skip
    rcases h2 with ⟨o2, x2, y2, pw2, ph2, g0, g1, g2, b0, b1, b2, b3, b4, b5, b6, b7, rfl, rfl⟩ | ⟨b0, rfl, rfl⟩ | ⟨o2, g0, b0, b1, rfl, rfl⟩ | ⟨o2, g0, b0, b1, b2, rfl, rfl⟩
    · have w := nI_inj (b := 1) (g0.symm.trans e0) (by omega) (by decide)
      subst w
      obtain ⟨r1, r2⟩ := gt_d (i2 := i2) (i3 := i3) (fou := fou) (hI.2.1) (Or.inl ⟨x, y, e1, e2, a0, a1, a2, a3, a4, rfl, rfl⟩) (Or.inl ⟨x2, y2, pw2, ph2, g1, g2, b1, b2, b3, b4, b5, b6, b7, rfl, rfl⟩)
      exact ⟨r1, r2, hI⟩
    · exact absurd (by rw [e0]; decide) b0
    · have w := nI_inj (b := 1) (g0.symm.trans e0) (by omega) (by decide)
      subst w
      obtain ⟨r1, r2⟩ := gt_d (i2 := i2) (i3 := i3) (fou := fou) (b := 0) (hI.2.1) (Or.inl ⟨x, y, e1, e2, a0, a1, a2, a3, a4, rfl, rfl⟩) (Or.inr (Or.inl ⟨b1, rfl⟩))
      exact ⟨r1, fun h => absurd (r1.trans h) (by decide), hI⟩
    · have w := nI_inj (b := 1) (g0.symm.trans e0) (by omega) (by decide)
      subst w
      obtain ⟨r1, r2⟩ := gt_d (i2 := i2) (i3 := i3) (fou := fou) (b := 0) (hI.2.1) (Or.inl ⟨x, y, e1, e2, a0, a1, a2, a3, a4, rfl, rfl⟩) (Or.inr (Or.inr ⟨b1, b2, rfl⟩))
      exact ⟨r1, fun h => absurd (r1.trans h) (by decide), hI⟩
  · skip
    rcases h2 with ⟨o2, x2, y2, pw2, ph2, g0, g1, g2, b0, b1, b2, b3, b4, b5, b6, b7, rfl, rfl⟩ | ⟨b0, rfl, rfl⟩ | ⟨o2, g0, b0, b1, rfl, rfl⟩ | ⟨o2, g0, b0, b1, b2, rfl, rfl⟩
    · have w := nI_inj (b := 2) (g0.symm.trans e0) (by omega) (by decide)
      subst w
      obtain ⟨r1, r2⟩ := gt_d (i2 := i2) (i3 := i3) (fou := fou) (hI.2.2.1) (Or.inl ⟨x, y, e1, e2, a0, a1, a2, a3, a4, rfl, rfl⟩) (Or.inl ⟨x2, y2, pw2, ph2, g1, g2, b1, b2, b3, b4, b5, b6, b7, rfl, rfl⟩)
      exact ⟨r1, r2, hI⟩
    · exact absurd (by rw [e0]; decide) b0
    · have w := nI_inj (b := 2) (g0.symm.trans e0) (by omega) (by decide)
      subst w
      obtain ⟨r1, r2⟩ := gt_d (i2 := i2) (i3 := i3) (fou := fou) (b := 0) (hI.2.2.1) (Or.inl ⟨x, y, e1, e2, a0, a1, a2, a3, a4, rfl, rfl⟩) (Or.inr (Or.inl ⟨b1, rfl⟩))
      exact ⟨r1, fun h => absurd (r1.trans h) (by decide), hI⟩
    · have w := nI_inj (b := 2) (g0.symm.trans e0) (by omega) (by decide)
      subst w
      obtain ⟨r1, r2⟩ := gt_d (i2 := i2) (i3 := i3) (fou := fou) (b := 0) (hI.2.2.1) (Or.inl ⟨x, y, e1, e2, a0, a1, a2, a3, a4, rfl, rfl⟩) (Or.inr (Or.inr ⟨b1, b2, rfl⟩))
      exact ⟨r1, fun h => absurd (r1.trans h) (by decide), hI⟩
  · skip
    replace u0 := u0.symm
    subst u0
    rcases h2 with ⟨o2, x2, y2, pw2, ph2, g0, g1, g2, b0, b1, b2, b3, b4, b5, b6, b7, rfl, rfl⟩ | ⟨b0, rfl, rfl⟩ | ⟨o2, g0, b0, b1, rfl, rfl⟩ | ⟨o2, g0, b0, b1, b2, rfl, rfl⟩
    · exact absurd (by rw [g0]; exact cs_ch b0) a0
    · exact ⟨rfl, fun h => absurd h (by decide), hI⟩
    · exact absurd (by rw [g0]; exact cs_ch b0) a0
    · exact absurd (by rw [g0]; exact cs_ch b0) a0
  · skip
    replace u0 := u0.symm
    subst u0
    rcases h2 with ⟨o2, x2, y2, pw2, ph2, g0, g1, g2, b0, b1, b2, b3, b4, b5, b6, b7, rfl, rfl⟩ | ⟨b0, rfl, rfl⟩ | ⟨o2, g0, b0, b1, rfl, rfl⟩ | ⟨o2, g0, b0, b1, b2, rfl, rfl⟩
    · have w := nI_inj (b := 0) (g0.symm.trans e0) (by omega) (by decide)
      subst w
      obtain ⟨r1, r2⟩ := gt_d (i2 := i2) (i3 := i3) (fou := fou) (fouN := fou) (hI.1.pic) (Or.inr (Or.inl ⟨a0, rfl⟩)) (Or.inl ⟨x2, y2, pw2, ph2, g1, g2, b1, b2, b3, b4, b5, b6, b7, rfl, rfl⟩)
      exact ⟨r1, fun h => absurd h (by decide), hI⟩
    · exact absurd (by rw [e0]; decide) b0
    · have w := nI_inj (b := 0) (g0.symm.trans e0) (by omega) (by decide)
      subst w
      obtain ⟨r1, r2⟩ := gt_d (i2 := i2) (i3 := i3) (fou := fou) (fouN := fou) (b := 0) (hI.1.pic) (Or.inr (Or.inl ⟨a0, rfl⟩)) (Or.inr (Or.inl ⟨b1, rfl⟩))
      exact ⟨r1, fun h => absurd h (by decide), hI⟩
    · have w := nI_inj (b := 0) (g0.symm.trans e0) (by omega) (by decide)
      subst w
      obtain ⟨r1, r2⟩ := gt_d (i2 := i2) (i3 := i3) (fou := fou) (fouN := fou) (b := 0) (hI.1.pic) (Or.inr (Or.inl ⟨a0, rfl⟩)) (Or.inr (Or.inr ⟨b1, b2, rfl⟩))
      exact ⟨r1, fun h => absurd h (by decide), hI⟩
  · skip
    replace u0 := u0.symm
    subst u0
    rcases h2 with ⟨o2, x2, y2, pw2, ph2, g0, g1, g2, b0, b1, b2, b3, b4, b5, b6, b7, rfl, rfl⟩ | ⟨b0, rfl, rfl⟩ | ⟨o2, g0, b0, b1, rfl, rfl⟩ | ⟨o2, g0, b0, b1, b2, rfl, rfl⟩
    · have w := nI_inj (b := 0) (g0.symm.trans e0) (by omega) (by decide)
      subst w
      obtain ⟨r1, r2⟩ := gt_d (i2 := i2) (i3 := i3) (fou := fou) (fouN := fou) (hI.1.pic) (Or.inr (Or.inr ⟨a0, a1, rfl⟩)) (Or.inl ⟨x2, y2, pw2, ph2, g1, g2, b1, b2, b3, b4, b5, b6, b7, rfl, rfl⟩)
      exact ⟨r1, fun h => absurd h (by decide), hI⟩
    · exact absurd (by rw [e0]; decide) b0
    · have w := nI_inj (b := 0) (g0.symm.trans e0) (by omega) (by decide)
      subst w
      obtain ⟨r1, r2⟩ := gt_d (i2 := i2) (i3 := i3) (fou := fou) (fouN := fou) (b := 0) (hI.1.pic) (Or.inr (Or.inr ⟨a0, a1, rfl⟩)) (Or.inr (Or.inl ⟨b1, rfl⟩))
      exact ⟨r1, fun h => absurd h (by decide), hI⟩
    · have w := nI_inj (b := 0) (g0.symm.trans e0) (by omega) (by decide)
      subst w
      obtain ⟨r1, r2⟩ := gt_d (i2 := i2) (i3 := i3) (fou := fou) (fouN := fou) (b := 0) (hI.1.pic) (Or.inr (Or.inr ⟨a0, a1, rfl⟩)) (Or.inr (Or.inr ⟨b1, b2, rfl⟩))
      exact ⟨r1, fun h => absurd h (by decide), hI⟩
  · skip
    replace u0 := u0.symm
    subst u0
    rcases h2 with ⟨o2, x2, y2, pw2, ph2, g0, g1, g2, b0, b1, b2, b3, b4, b5, b6, b7, rfl, rfl⟩ | ⟨b0, rfl, rfl⟩ | ⟨o2, g0, b0, b1, rfl, rfl⟩ | ⟨o2, g0, b0, b1, b2, rfl, rfl⟩
    · have w := nI_inj (b := 1) (g0.symm.trans e0) (by omega) (by decide)
      subst w
      obtain ⟨r1, r2⟩ := gt_d (i2 := i2) (i3 := i3) (fou := fou) (fouN := fou) (hI.2.1) (Or.inr (Or.inl ⟨a0, rfl⟩)) (Or.inl ⟨x2, y2, pw2, ph2, g1, g2, b1, b2, b3, b4, b5, b6, b7, rfl, rfl⟩)
      exact ⟨r1, fun h => absurd h (by decide), hI⟩
    · exact absurd (by rw [e0]; decide) b0
    · have w := nI_inj (b := 1) (g0.symm.trans e0) (by omega) (by decide)
      subst w
      obtain ⟨r1, r2⟩ := gt_d (i2 := i2) (i3 := i3) (fou := fou) (fouN := fou) (b := 0) (hI.2.1) (Or.inr (Or.inl ⟨a0, rfl⟩)) (Or.inr (Or.inl ⟨b1, rfl⟩))
      exact ⟨r1, fun h => absurd h (by decide), hI⟩
    · have w := nI_inj (b := 1) (g0.symm.trans e0) (by omega) (by decide)
      subst w
      obtain ⟨r1, r2⟩ := gt_d (i2 := i2) (i3 := i3) (fou := fou) (fouN := fou) (b := 0) (hI.2.1) (Or.inr (Or.inl ⟨a0, rfl⟩)) (Or.inr (Or.inr ⟨b1, b2, rfl⟩))
      exact ⟨r1, fun h => absurd h (by decide), hI⟩
  · skip
    replace u0 := u0.symm
    subst u0
    rcases h2 with ⟨o2, x2, y2, pw2, ph2, g0, g1, g2, b0, b1, b2, b3, b4, b5, b6, b7, rfl, rfl⟩ | ⟨b0, rfl, rfl⟩ | ⟨o2, g0, b0, b1, rfl, rfl⟩ | ⟨o2, g0, b0, b1, b2, rfl, rfl⟩
    · have w := nI_inj (b := 1) (g0.symm.trans e0) (by omega) (by decide)
      subst w
      obtain ⟨r1, r2⟩ := gt_d (i2 := i2) (i3 := i3) (fou := fou) (fouN := fou) (hI.2.1) (Or.inr (Or.inr ⟨a0, a1, rfl⟩)) (Or.inl ⟨x2, y2, pw2, ph2, g1, g2, b1, b2, b3, b4, b5, b6, b7, rfl, rfl⟩)
      exact ⟨r1, fun h => absurd h (by decide), hI⟩
    · exact absurd (by rw [e0]; decide) b0
    · have w := nI_inj (b := 1) (g0.symm.trans e0) (by omega) (by decide)
      subst w
      obtain ⟨r1, r2⟩ := gt_d (i2 := i2) (i3 := i3) (fou := fou) (fouN := fou) (b := 0) (hI.2.1) (Or.inr (Or.inr ⟨a0, a1, rfl⟩)) (Or.inr (Or.inl ⟨b1, rfl⟩))
      exact ⟨r1, fun h => absurd h (by decide), hI⟩
    · have w := nI_inj (b := 1) (g0.symm.trans e0) (by omega) (by decide)
      subst w
      obtain ⟨r1, r2⟩ := gt_d (i2 := i2) (i3 := i3) (fou := fou) (fouN := fou) (b := 0) (hI.2.1) (Or.inr (Or.inr ⟨a0, a1, rfl⟩)) (Or.inr (Or.inr ⟨b1, b2, rfl⟩))
      exact ⟨r1, fun h => absurd h (by decide), hI⟩
  · skip
    replace u0 := u0.symm
    subst u0
    rcases h2 with ⟨o2, x2, y2, pw2, ph2, g0, g1, g2, b0, b1, b2, b3, b4, b5, b6, b7, rfl, rfl⟩ | ⟨b0, rfl, rfl⟩ | ⟨o2, g0, b0, b1, rfl, rfl⟩ | ⟨o2, g0, b0, b1, b2, rfl, rfl⟩
    · have w := nI_inj (b := 2) (g0.symm.trans e0) (by omega) (by decide)
      subst w
      obtain ⟨r1, r2⟩ := gt_d (i2 := i2) (i3 := i3) (fou := fou) (fouN := fou) (hI.2.2.1) (Or.inr (Or.inl ⟨a0, rfl⟩)) (Or.inl ⟨x2, y2, pw2, ph2, g1, g2, b1, b2, b3, b4, b5, b6, b7, rfl, rfl⟩)
      exact ⟨r1, fun h => absurd h (by decide), hI⟩
    · exact absurd (by rw [e0]; decide) b0
    · have w := nI_inj (b := 2) (g0.symm.trans e0) (by omega) (by decide)
      subst w
      obtain ⟨r1, r2⟩ := gt_d (i2 := i2) (i3 := i3) (fou := fou) (fouN := fou) (b := 0) (hI.2.2.1) (Or.inr (Or.inl ⟨a0, rfl⟩)) (Or.inr (Or.inl ⟨b1, rfl⟩))
      exact ⟨r1, fun h => absurd h (by decide), hI⟩
    · have w := nI_inj (b := 2) (g0.symm.trans e0) (by omega) (by decide)
      subst w
      obtain ⟨r1, r2⟩ := gt_d (i2 := i2) (i3 := i3) (fou := fou) (fouN := fou) (b := 0) (hI.2.2.1) (Or.inr (Or.inl ⟨a0, rfl⟩)) (Or.inr (Or.inr ⟨b1, b2, rfl⟩))
      exact ⟨r1, fun h => absurd h (by decide), hI⟩
  · skip
    replace u0 := u0.symm
    subst u0
    rcases h2 with ⟨o2, x2, y2, pw2, ph2, g0, g1, g2, b0, b1, b2, b3, b4, b5, b6, b7, rfl, rfl⟩ | ⟨b0, rfl, rfl⟩ | ⟨o2, g0, b0, b1, rfl, rfl⟩ | ⟨o2, g0, b0, b1, b2, rfl, rfl⟩
    · have w := nI_inj (b := 2) (g0.symm.trans e0) (by omega) (by decide)
      subst w
      obtain ⟨r1, r2⟩ := gt_d (i2 := i2) (i3 := i3) (fou := fou) (fouN := fou) (hI.2.2.1) (Or.inr (Or.inr ⟨a0, a1, rfl⟩)) (Or.inl ⟨x2, y2, pw2, ph2, g1, g2, b1, b2, b3, b4, b5, b6, b7, rfl, rfl⟩)
      exact ⟨r1, fun h => absurd h (by decide), hI⟩
    · exact absurd (by rw [e0]; decide) b0
    · have w := nI_inj (b := 2) (g0.symm.trans e0) (by omega) (by decide)
      subst w
      obtain ⟨r1, r2⟩ := gt_d (i2 := i2) (i3 := i3) (fou := fou) (fouN := fou) (b := 0) (hI.2.2.1) (Or.inr (Or.inr ⟨a0, a1, rfl⟩)) (Or.inr (Or.inl ⟨b1, rfl⟩))
      exact ⟨r1, fun h => absurd h (by decide), hI⟩
    · have w := nI_inj (b := 2) (g0.symm.trans e0) (by omega) (by decide)
      subst w
      obtain ⟨r1, r2⟩ := gt_d (i2 := i2) (i3 := i3) (fou := fou) (fouN := fou) (b := 0) (hI.2.2.1) (Or.inr (Or.inr ⟨a0, a1, rfl⟩)) (Or.inr (Or.inr ⟨b1, b2, rfl⟩))
      exact ⟨r1, fun h => absurd h (by decide), hI⟩
