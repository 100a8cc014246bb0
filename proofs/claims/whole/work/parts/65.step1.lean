set_option maxHeartbeats 2000000 in
theorem p_size {px : Nat → Int32} {vz : Int32} {vw : Int32} {vh : Int32} {pxc : Nat → Int32} {mdc : Nat → Int32} {vzc : Int32} {vwc : Int32} {vhc : Int32} {vkc : Int32} {pxr : Nat → Int32} {mdr : Nat → Int32} {vzr : Int32} {vwr : Int32} {vhr : Int32} {vkr : Int32} {yt : Nat → Int32} {yl : Nat} {ibc : Int32} {ilc : Int32} {igl : Int32} {ibk : Int32} {ifa : Int32} {ibd : Int32} {wd : Nat → Int32} {hg : Nat → Int32} {pix : Nat → Int32} {str : Nat → Int32} {mds : Nat → Int32} {thr : Nat → Int32} {isz : Int32} {ibl : Int32} {ile : Int32} {igr : Int32} {mbk : Int32} {ist : Int32} {ibr : Int32} {vk : Int32} {fou : Nat → Int64} {i1 : Int32} {i2 : Int32} {vzN : Int32} {vwN : Int32} {vhN : Int32} {vkN : Int32} {pxN : Nat → Int32} {fouN : Nat → Int64} {ithN : Int32} {wdN : Nat → Int32} {hgN : Nat → Int32} {pixN : Nat → Int32} {k : Int32} {bb : Int32} (hI : INV px vz vw vh pxc mdc vzc vwc vhc vkc pxr mdr vzr vwr vhr vkr yt yl ibc ilc igl ibk ifa ibd wd hg pix str mds thr isz ibl ile igr mbk ist ibr) (h1 : rx_size vz vw vh vk px fou i1 i2 vzN vwN vhN vkN pxN fouN k) (h2 : rm_size wd hg pix i1 i2 ithN wdN hgN pixN bb) : ithN = k ∧ (k = 0 → fouN 0 = Int32.toInt64 bb) ∧ INV pxN vzN vwN vhN pxc mdc vzc vwc vhc vkc pxr mdr vzr vwr vhr vkr yt yl ibc ilc igl ibk ifa ibd wdN hgN pixN str mds thr isz ibl ile igr mbk ist ibr := by
  have hI0 := hI
  obtain ⟨⟨z0, t0, ⟨cw0, ch0, hcw0, hch0, ew, eh, mw, mh⟩, hpx⟩, A1, A2, B1, B2, ⟨es, hyl, hyt⟩, ⟨q1, q2, q3, q4, q5⟩, hPX⟩ := hI0
  unfold rx_size at h1
  unfold rm_size at h2
  rcases h1 with ⟨px', a0, a1, fa0, rfl, rfl, u1, u2, rfl, u4, rfl⟩ | ⟨a0, rfl, u0, u1, u2, u3, u4, u5⟩
  · skip
    replace u1 := u1.symm
    subst u1
    replace u2 := u2.symm
    subst u2
    replace u4 := u4.symm
    subst u4
    have ppS : sideP i1 ∧ sideP i2 := ⟨a0, a1⟩
    rcases h2 with ⟨b0, b1, rfl, rfl, rfl, rfl, rfl⟩ | ⟨b0, rfl, rfl, v1, v2, v3⟩
    · skip
      have ppS2 : sideP i1 ∧ sideP i2 := ⟨b0, b1⟩
      exact ⟨rfl, fun _ => by rw [updL0, sz_eq a0 a1], inv_size a0 a1 fa0 hI⟩
    · skip
      replace v1 := v1.symm
      subst v1
      replace v2 := v2.symm
      subst v2
      replace v3 := v3.symm
      subst v3
      have nnS2 : ¬ (sideP i1 ∧ sideP i2) := b0
      first | exact absurd ppS nnS2 | exact absurd ppS2 nnS | exact absurd ppV nnV2 | exact absurd ppV2 nnV | exact absurd ppI nnI2 | exact absurd ppI2 nnI | exact absurd ppK nnK2 | exact absurd ppK2 nnK | exact absurd ppT nnT2 | exact absurd ppT2 nnT | exact absurd ppL nnL2 | exact absurd ppL2 nnL | exact absurd ppG nnG2 | exact absurd ppG2 nnG | exact absurd ppQ nnQ2 | exact absurd ppQ2 nnQ | exact absurd ppM nnM2 | exact absurd ppM2 nnM | exact absurd ppR nnR2 | exact absurd ppR2 nnR | exact absurd ppZ nnZ2 | exact absurd ppZ2 nnZ | exact absurd (ppR.symm.trans ppZ2) (by decide) | exact absurd (ppZ.symm.trans ppR2) (by decide)
  · skip
    replace u0 := u0.symm
    subst u0
    replace u1 := u1.symm
    subst u1
    replace u2 := u2.symm
    subst u2
    replace u3 := u3.symm
    subst u3
    replace u4 := u4.symm
    subst u4
    replace u5 := u5.symm
    subst u5
    have nnS : ¬ (sideP i1 ∧ sideP i2) := a0
    rcases h2 with ⟨b0, b1, rfl, rfl, rfl, rfl, rfl⟩ | ⟨b0, rfl, rfl, v1, v2, v3⟩
    · skip
      have ppS2 : sideP i1 ∧ sideP i2 := ⟨b0, b1⟩
      first | exact absurd ppS nnS2 | exact absurd ppS2 nnS | exact absurd ppV nnV2 | exact absurd ppV2 nnV | exact absurd ppI nnI2 | exact absurd ppI2 nnI | exact absurd ppK nnK2 | exact absurd ppK2 nnK | exact absurd ppT nnT2 | exact absurd ppT2 nnT | exact absurd ppL nnL2 | exact absurd ppL2 nnL | exact absurd ppG nnG2 | exact absurd ppG2 nnG | exact absurd ppQ nnQ2 | exact absurd ppQ2 nnQ | exact absurd ppM nnM2 | exact absurd ppM2 nnM | exact absurd ppR nnR2 | exact absurd ppR2 nnR | exact absurd ppZ nnZ2 | exact absurd ppZ2 nnZ | exact absurd (ppR.symm.trans ppZ2) (by decide) | exact absurd (ppZ.symm.trans ppR2) (by decide)
    · skip
      replace v1 := v1.symm
      subst v1
      replace v2 := v2.symm
      subst v2
      replace v3 := v3.symm
      subst v3
      have nnS2 : ¬ (sideP i1 ∧ sideP i2) := b0
      exact ⟨rfl, fun h => absurd h (by decide), hI⟩
set_option maxHeartbeats 2000000 in
theorem p_pixel {px : Nat → Int32} {vz : Int32} {vw : Int32} {vh : Int32} {pxc : Nat → Int32} {mdc : Nat → Int32} {vzc : Int32} {vwc : Int32} {vhc : Int32} {vkc : Int32} {pxr : Nat → Int32} {mdr : Nat → Int32} {vzr : Int32} {vwr : Int32} {vhr : Int32} {vkr : Int32} {yt : Nat → Int32} {yl : Nat} {ibc : Int32} {ilc : Int32} {igl : Int32} {ibk : Int32} {ifa : Int32} {ibd : Int32} {wd : Nat → Int32} {hg : Nat → Int32} {pix : Nat → Int32} {str : Nat → Int32} {mds : Nat → Int32} {thr : Nat → Int32} {isz : Int32} {ibl : Int32} {ile : Int32} {igr : Int32} {mbk : Int32} {ist : Int32} {ibr : Int32} {fou : Nat → Int64} {i1 : Int32} {i2 : Int32} {i3 : Int32} {pxN : Nat → Int32} {fouN : Nat → Int64} {ithN : Int32} {pixN : Nat → Int32} {k : Int32} {bb : Int32} (hI : INV px vz vw vh pxc mdc vzc vwc vhc vkc pxr mdr vzr vwr vhr vkr yt yl ibc ilc igl ibk ifa ibd wd hg pix str mds thr isz ibl ile igr mbk ist ibr) (h1 : rx_pixel vw vh px fou i1 i2 i3 pxN fouN k) (h2 : rm_pixel wd hg pix i1 i2 i3 ithN pixN bb) : ithN = k ∧ (k = 0 → fouN 0 = Int32.toInt64 bb) ∧ INV pxN vz vw vh pxc mdc vzc vwc vhc vkc pxr mdr vzr vwr vhr vkr yt yl ibc ilc igl ibk ifa ibd wd hg pixN str mds thr isz ibl ile igr mbk ist ibr := by
  have hI0 := hI
  obtain ⟨⟨z0, t0, ⟨cw0, ch0, hcw0, hch0, ew, eh, mw, mh⟩, hpx⟩, A1, A2, B1, B2, ⟨es, hyl, hyt⟩, ⟨q1, q2, q3, q4, q5⟩, hPX⟩ := hI0
  unfold rx_pixel at h1
  unfold rm_pixel at h2
  rcases h1 with ⟨x, y, e0, e1, a0, a1, a2, a3, a4, rfl, rfl, rfl⟩ | ⟨a0, rfl, u0, u1⟩ | ⟨a0, a1, rfl, u0, u1⟩
  · skip
    have ppV : ¬ i3 < 0 ∧ ¬ 255 < i3 := a0
    have ppI : ∃ x y : Nat, x < 4 * cw0 ∧ y < 4 * ch0 ∧ i1 = nI x ∧ i2 = nI y := ⟨x, y, (nI_ltI (by omega) (by omega)).mp (by rw [← ew]; exact a3), (nI_ltI (by omega) (by omega)).mp (by rw [← eh]; exact a4), e0, e1⟩
    rcases h2 with ⟨x2, y2, pw2, ph2, g0, g1, b0, b1, b2, b3, b4, b5, b6, rfl, rfl, rfl⟩ | ⟨b0, rfl, rfl, v1⟩ | ⟨b0, b1, rfl, rfl, v1⟩
    · skip
      have ppV2 : ¬ i3 < 0 ∧ ¬ 255 < i3 := b0
      have ppI2 : ∃ x y : Nat, x < 4 * cw0 ∧ y < 4 * ch0 ∧ i1 = nI x ∧ i2 = nI y := ⟨x2, y2, by have q := nI_inj (b1.symm.trans mw) (by omega) (by omega); omega, by have q := nI_inj (b2.symm.trans mh) (by omega) (by omega); omega, g0, g1⟩
      have w1 := nI_inj (e0.symm.trans g0) (by omega) (by omega)
      have w2 := nI_inj (e1.symm.trans g1) (by omega) (by omega)
      subst w1
      subst w2
      exact ⟨rfl, fun _ => by rw [updL0, hpx _ (by omega)], inv_upd (by omega) (sm_of a0) hI⟩
    · skip
      replace v1 := v1.symm
      subst v1
      have nnV2 : ¬ (¬ i3 < 0 ∧ ¬ 255 < i3) := b0
      first | exact absurd ppS nnS2 | exact absurd ppS2 nnS | exact absurd ppV nnV2 | exact absurd ppV2 nnV | exact absurd ppI nnI2 | exact absurd ppI2 nnI | exact absurd ppK nnK2 | exact absurd ppK2 nnK | exact absurd ppT nnT2 | exact absurd ppT2 nnT | exact absurd ppL nnL2 | exact absurd ppL2 nnL | exact absurd ppG nnG2 | exact absurd ppG2 nnG | exact absurd ppQ nnQ2 | exact absurd ppQ2 nnQ | exact absurd ppM nnM2 | exact absurd ppM2 nnM | exact absurd ppR nnR2 | exact absurd ppR2 nnR | exact absurd ppZ nnZ2 | exact absurd ppZ2 nnZ | exact absurd (ppR.symm.trans ppZ2) (by decide) | exact absurd (ppZ.symm.trans ppR2) (by decide)
    · skip
      replace v1 := v1.symm
      subst v1
      have ppV2 : ¬ i3 < 0 ∧ ¬ 255 < i3 := b0
      have nnI2 : ¬ (∃ x y : Nat, x < 4 * cw0 ∧ y < 4 * ch0 ∧ i1 = nI x ∧ i2 = nI y) := fun ⟨x, y, h1, h2, h3, h4⟩ => b1 (by rw [h3, h4]; exact cs_in2 mw h1 (by omega) mh h2 (by omega))
      first | exact absurd ppS nnS2 | exact absurd ppS2 nnS | exact absurd ppV nnV2 | exact absurd ppV2 nnV | exact absurd ppI nnI2 | exact absurd ppI2 nnI | exact absurd ppK nnK2 | exact absurd ppK2 nnK | exact absurd ppT nnT2 | exact absurd ppT2 nnT | exact absurd ppL nnL2 | exact absurd ppL2 nnL | exact absurd ppG nnG2 | exact absurd ppG2 nnG | exact absurd ppQ nnQ2 | exact absurd ppQ2 nnQ | exact absurd ppM nnM2 | exact absurd ppM2 nnM | exact absurd ppR nnR2 | exact absurd ppR2 nnR | exact absurd ppZ nnZ2 | exact absurd ppZ2 nnZ | exact absurd (ppR.symm.trans ppZ2) (by decide) | exact absurd (ppZ.symm.trans ppR2) (by decide)
  · skip
    replace u0 := u0.symm
    subst u0
    replace u1 := u1.symm
    subst u1
    have nnV : ¬ (¬ i3 < 0 ∧ ¬ 255 < i3) := a0
    rcases h2 with ⟨x2, y2, pw2, ph2, g0, g1, b0, b1, b2, b3, b4, b5, b6, rfl, rfl, rfl⟩ | ⟨b0, rfl, rfl, v1⟩ | ⟨b0, b1, rfl, rfl, v1⟩
    · skip
      have ppV2 : ¬ i3 < 0 ∧ ¬ 255 < i3 := b0
      have ppI2 : ∃ x y : Nat, x < 4 * cw0 ∧ y < 4 * ch0 ∧ i1 = nI x ∧ i2 = nI y := ⟨x2, y2, by have q := nI_inj (b1.symm.trans mw) (by omega) (by omega); omega, by have q := nI_inj (b2.symm.trans mh) (by omega) (by omega); omega, g0, g1⟩
      first | exact absurd ppS nnS2 | exact absurd ppS2 nnS | exact absurd ppV nnV2 | exact absurd ppV2 nnV | exact absurd ppI nnI2 | exact absurd ppI2 nnI | exact absurd ppK nnK2 | exact absurd ppK2 nnK | exact absurd ppT nnT2 | exact absurd ppT2 nnT | exact absurd ppL nnL2 | exact absurd ppL2 nnL | exact absurd ppG nnG2 | exact absurd ppG2 nnG | exact absurd ppQ nnQ2 | exact absurd ppQ2 nnQ | exact absurd ppM nnM2 | exact absurd ppM2 nnM | exact absurd ppR nnR2 | exact absurd ppR2 nnR | exact absurd ppZ nnZ2 | exact absurd ppZ2 nnZ | exact absurd (ppR.symm.trans ppZ2) (by decide) | exact absurd (ppZ.symm.trans ppR2) (by decide)
    · skip
      replace v1 := v1.symm
      subst v1
      have nnV2 : ¬ (¬ i3 < 0 ∧ ¬ 255 < i3) := b0
      exact ⟨rfl, fun h => absurd h (by decide), hI⟩
    · skip
      replace v1 := v1.symm
      subst v1
      have ppV2 : ¬ i3 < 0 ∧ ¬ 255 < i3 := b0
      have nnI2 : ¬ (∃ x y : Nat, x < 4 * cw0 ∧ y < 4 * ch0 ∧ i1 = nI x ∧ i2 = nI y) := fun ⟨x, y, h1, h2, h3, h4⟩ => b1 (by rw [h3, h4]; exact cs_in2 mw h1 (by omega) mh h2 (by omega))
      first | exact absurd ppS nnS2 | exact absurd ppS2 nnS | exact absurd ppV nnV2 | exact absurd ppV2 nnV | exact absurd ppI nnI2 | exact absurd ppI2 nnI | exact absurd ppK nnK2 | exact absurd ppK2 nnK | exact absurd ppT nnT2 | exact absurd ppT2 nnT | exact absurd ppL nnL2 | exact absurd ppL2 nnL | exact absurd ppG nnG2 | exact absurd ppG2 nnG | exact absurd ppQ nnQ2 | exact absurd ppQ2 nnQ | exact absurd ppM nnM2 | exact absurd ppM2 nnM | exact absurd ppR nnR2 | exact absurd ppR2 nnR | exact absurd ppZ nnZ2 | exact absurd ppZ2 nnZ | exact absurd (ppR.symm.trans ppZ2) (by decide) | exact absurd (ppZ.symm.trans ppR2) (by decide)
  · skip
    replace u0 := u0.symm
    subst u0
    replace u1 := u1.symm
    subst u1
    have ppV : ¬ i3 < 0 ∧ ¬ 255 < i3 := a0
    have nnI : ¬ (∃ x y : Nat, x < 4 * cw0 ∧ y < 4 * ch0 ∧ i1 = nI x ∧ i2 = nI y) := fun ⟨x, y, h1, h2, h3, h4⟩ => a1 (by rw [h3, h4, ew, eh]; exact hasP_in (by omega) (by omega) (nI_lt h1 (by omega)) (nI_lt h2 (by omega)))
    rcases h2 with ⟨x2, y2, pw2, ph2, g0, g1, b0, b1, b2, b3, b4, b5, b6, rfl, rfl, rfl⟩ | ⟨b0, rfl, rfl, v1⟩ | ⟨b0, b1, rfl, rfl, v1⟩
    · skip
      have ppV2 : ¬ i3 < 0 ∧ ¬ 255 < i3 := b0
      have ppI2 : ∃ x y : Nat, x < 4 * cw0 ∧ y < 4 * ch0 ∧ i1 = nI x ∧ i2 = nI y := ⟨x2, y2, by have q := nI_inj (b1.symm.trans mw) (by omega) (by omega); omega, by have q := nI_inj (b2.symm.trans mh) (by omega) (by omega); omega, g0, g1⟩
      first | exact absurd ppS nnS2 | exact absurd ppS2 nnS | exact absurd ppV nnV2 | exact absurd ppV2 nnV | exact absurd ppI nnI2 | exact absurd ppI2 nnI | exact absurd ppK nnK2 | exact absurd ppK2 nnK | exact absurd ppT nnT2 | exact absurd ppT2 nnT | exact absurd ppL nnL2 | exact absurd ppL2 nnL | exact absurd ppG nnG2 | exact absurd ppG2 nnG | exact absurd ppQ nnQ2 | exact absurd ppQ2 nnQ | exact absurd ppM nnM2 | exact absurd ppM2 nnM | exact absurd ppR nnR2 | exact absurd ppR2 nnR | exact absurd ppZ nnZ2 | exact absurd ppZ2 nnZ | exact absurd (ppR.symm.trans ppZ2) (by decide) | exact absurd (ppZ.symm.trans ppR2) (by decide)
    · skip
      replace v1 := v1.symm
      subst v1
      have nnV2 : ¬ (¬ i3 < 0 ∧ ¬ 255 < i3) := b0
      first | exact absurd ppS nnS2 | exact absurd ppS2 nnS | exact absurd ppV nnV2 | exact absurd ppV2 nnV | exact absurd ppI nnI2 | exact absurd ppI2 nnI | exact absurd ppK nnK2 | exact absurd ppK2 nnK | exact absurd ppT nnT2 | exact absurd ppT2 nnT | exact absurd ppL nnL2 | exact absurd ppL2 nnL | exact absurd ppG nnG2 | exact absurd ppG2 nnG | exact absurd ppQ nnQ2 | exact absurd ppQ2 nnQ | exact absurd ppM nnM2 | exact absurd ppM2 nnM | exact absurd ppR nnR2 | exact absurd ppR2 nnR | exact absurd ppZ nnZ2 | exact absurd ppZ2 nnZ | exact absurd (ppR.symm.trans ppZ2) (by decide) | exact absurd (ppZ.symm.trans ppR2) (by decide)
    · skip
      replace v1 := v1.symm
      subst v1
      have ppV2 : ¬ i3 < 0 ∧ ¬ 255 < i3 := b0
      have nnI2 : ¬ (∃ x y : Nat, x < 4 * cw0 ∧ y < 4 * ch0 ∧ i1 = nI x ∧ i2 = nI y) := fun ⟨x, y, h1, h2, h3, h4⟩ => b1 (by rw [h3, h4]; exact cs_in2 mw h1 (by omega) mh h2 (by omega))
      exact ⟨rfl, fun h => absurd h (by decide), hI⟩
set_option maxHeartbeats 2000000 in
theorem p_fill {px : Nat → Int32} {vz : Int32} {vw : Int32} {vh : Int32} {pxc : Nat → Int32} {mdc : Nat → Int32} {vzc : Int32} {vwc : Int32} {vhc : Int32} {vkc : Int32} {pxr : Nat → Int32} {mdr : Nat → Int32} {vzr : Int32} {vwr : Int32} {vhr : Int32} {vkr : Int32} {yt : Nat → Int32} {yl : Nat} {ibc : Int32} {ilc : Int32} {igl : Int32} {ibk : Int32} {ifa : Int32} {ibd : Int32} {wd : Nat → Int32} {hg : Nat → Int32} {pix : Nat → Int32} {str : Nat → Int32} {mds : Nat → Int32} {thr : Nat → Int32} {isz : Int32} {ibl : Int32} {ile : Int32} {igr : Int32} {mbk : Int32} {ist : Int32} {ibr : Int32} {fou : Nat → Int64} {i1 : Int32} {i2 : Int32} {i3 : Int32} {i4 : Int32} {i5 : Int32} {pxN : Nat → Int32} {fouN : Nat → Int64} {ithN : Int32} {pixN : Nat → Int32} {k : Int32} {bb : Int32} (hI : INV px vz vw vh pxc mdc vzc vwc vhc vkc pxr mdr vzr vwr vhr vkr yt yl ibc ilc igl ibk ifa ibd wd hg pix str mds thr isz ibl ile igr mbk ist ibr) (h1 : rx_fill vw vh px fou i1 i2 i3 i4 i5 pxN fouN k) (h2 : rm_fill wd hg pix i1 i2 i3 i4 i5 ithN pixN bb) : ithN = k ∧ (k = 0 → fouN 0 = Int32.toInt64 bb) ∧ INV pxN vz vw vh pxc mdc vzc vwc vhc vkc pxr mdr vzr vwr vhr vkr yt yl ibc ilc igl ibk ifa ibd wd hg pixN str mds thr isz ibl ile igr mbk ist ibr := by
  have hI0 := hI
  obtain ⟨⟨z0, t0, ⟨cw0, ch0, hcw0, hch0, ew, eh, mw, mh⟩, hpx⟩, A1, A2, B1, B2, ⟨es, hyl, hyt⟩, ⟨q1, q2, q3, q4, q5⟩, hPX⟩ := hI0
  unfold rx_fill at h1
  unfold rm_fill at h2
  rcases h1 with ⟨x, y, pw, ph, e0, e1, e2, e3, a0, a1, a2, a3, a4, a5, a6, rfl, rfl, rfl⟩ | ⟨a0, rfl, u0, u1⟩ | ⟨a0, a1, a2, a3, rfl, u0, u1⟩
  · skip
    have ppV : (¬ i3 < 0 ∧ ¬ 255 < i3) ∧ (¬ i4 < (-255) ∧ ¬ 255 < i4) ∧ (¬ i5 < (-255) ∧ ¬ 255 < i5) := ⟨a0, a1, a2⟩
    have ppI : ∃ x y : Nat, x < 4 * cw0 ∧ y < 4 * ch0 ∧ i1 = nI x ∧ i2 = nI y := ⟨x, y, by have q := nI_inj (e2.symm.trans ew) (by omega) (by omega); omega, by have q := nI_inj (e3.symm.trans eh) (by omega) (by omega); omega, e0, e1⟩
    rcases h2 with ⟨x2, y2, pw2, ph2, g0, g1, b0, b1, b2, b3, b4, b5, b6, b7, b8, rfl, rfl, rfl⟩ | ⟨b0, rfl, rfl, v1⟩ | ⟨b0, b1, b2, b3, rfl, rfl, v1⟩
    · skip
      have ppV2 : (¬ i3 < 0 ∧ ¬ 255 < i3) ∧ (¬ i4 < (-255) ∧ ¬ 255 < i4) ∧ (¬ i5 < (-255) ∧ ¬ 255 < i5) := ⟨b0, b1, b2⟩
      have ppI2 : ∃ x y : Nat, x < 4 * cw0 ∧ y < 4 * ch0 ∧ i1 = nI x ∧ i2 = nI y := ⟨x2, y2, by have q := nI_inj (b3.symm.trans mw) (by omega) (by omega); omega, by have q := nI_inj (b4.symm.trans mh) (by omega) (by omega); omega, g0, g1⟩
      have w1 := nI_inj (e0.symm.trans g0) (by omega) (by omega)
      have w2 := nI_inj (e1.symm.trans g1) (by omega) (by omega)
      have w3 := nI_inj (e2.symm.trans (ew.trans (mw.symm.trans b3))) (by omega) (by omega)
      have w4 := nI_inj (e3.symm.trans (eh.trans (mh.symm.trans b4))) (by omega) (by omega)
      subst w1
      subst w2
      subst w3
      subst w4
      exact ⟨rfl, fun _ => by rw [updL0, b3, b4, nI_sub (by omega), nI_sub (by omega), pk_mul, Nat.mul_comm], inv_fill hI⟩
    · skip
      replace v1 := v1.symm
      subst v1
      have nnV2 : ¬ ((¬ i3 < 0 ∧ ¬ 255 < i3) ∧ (¬ i4 < (-255) ∧ ¬ 255 < i4) ∧ (¬ i5 < (-255) ∧ ¬ 255 < i5)) := b0
      first | exact absurd ppS nnS2 | exact absurd ppS2 nnS | exact absurd ppV nnV2 | exact absurd ppV2 nnV | exact absurd ppI nnI2 | exact absurd ppI2 nnI | exact absurd ppK nnK2 | exact absurd ppK2 nnK | exact absurd ppT nnT2 | exact absurd ppT2 nnT | exact absurd ppL nnL2 | exact absurd ppL2 nnL | exact absurd ppG nnG2 | exact absurd ppG2 nnG | exact absurd ppQ nnQ2 | exact absurd ppQ2 nnQ | exact absurd ppM nnM2 | exact absurd ppM2 nnM | exact absurd ppR nnR2 | exact absurd ppR2 nnR | exact absurd ppZ nnZ2 | exact absurd ppZ2 nnZ | exact absurd (ppR.symm.trans ppZ2) (by decide) | exact absurd (ppZ.symm.trans ppR2) (by decide)
    · skip
      replace v1 := v1.symm
      subst v1
      have ppV2 : (¬ i3 < 0 ∧ ¬ 255 < i3) ∧ (¬ i4 < (-255) ∧ ¬ 255 < i4) ∧ (¬ i5 < (-255) ∧ ¬ 255 < i5) := ⟨b0, b1, b2⟩
      have nnI2 : ¬ (∃ x y : Nat, x < 4 * cw0 ∧ y < 4 * ch0 ∧ i1 = nI x ∧ i2 = nI y) := fun ⟨x, y, h1, h2, h3, h4⟩ => b3 (by rw [h3, h4]; exact cs_in2 mw h1 (by omega) mh h2 (by omega))
      first | exact absurd ppS nnS2 | exact absurd ppS2 nnS | exact absurd ppV nnV2 | exact absurd ppV2 nnV | exact absurd ppI nnI2 | exact absurd ppI2 nnI | exact absurd ppK nnK2 | exact absurd ppK2 nnK | exact absurd ppT nnT2 | exact absurd ppT2 nnT | exact absurd ppL nnL2 | exact absurd ppL2 nnL | exact absurd ppG nnG2 | exact absurd ppG2 nnG | exact absurd ppQ nnQ2 | exact absurd ppQ2 nnQ | exact absurd ppM nnM2 | exact absurd ppM2 nnM | exact absurd ppR nnR2 | exact absurd ppR2 nnR | exact absurd ppZ nnZ2 | exact absurd ppZ2 nnZ | exact absurd (ppR.symm.trans ppZ2) (by decide) | exact absurd (ppZ.symm.trans ppR2) (by decide)
  · skip
    replace u0 := u0.symm
    subst u0
    replace u1 := u1.symm
    subst u1
    have nnV : ¬ ((¬ i3 < 0 ∧ ¬ 255 < i3) ∧ (¬ i4 < (-255) ∧ ¬ 255 < i4) ∧ (¬ i5 < (-255) ∧ ¬ 255 < i5)) := a0
    rcases h2 with ⟨x2, y2, pw2, ph2, g0, g1, b0, b1, b2, b3, b4, b5, b6, b7, b8, rfl, rfl, rfl⟩ | ⟨b0, rfl, rfl, v1⟩ | ⟨b0, b1, b2, b3, rfl, rfl, v1⟩
    · skip
      have ppV2 : (¬ i3 < 0 ∧ ¬ 255 < i3) ∧ (¬ i4 < (-255) ∧ ¬ 255 < i4) ∧ (¬ i5 < (-255) ∧ ¬ 255 < i5) := ⟨b0, b1, b2⟩
      have ppI2 : ∃ x y : Nat, x < 4 * cw0 ∧ y < 4 * ch0 ∧ i1 = nI x ∧ i2 = nI y := ⟨x2, y2, by have q := nI_inj (b3.symm.trans mw) (by omega) (by omega); omega, by have q := nI_inj (b4.symm.trans mh) (by omega) (by omega); omega, g0, g1⟩
      first | exact absurd ppS nnS2 | exact absurd ppS2 nnS | exact absurd ppV nnV2 | exact absurd ppV2 nnV | exact absurd ppI nnI2 | exact absurd ppI2 nnI | exact absurd ppK nnK2 | exact absurd ppK2 nnK | exact absurd ppT nnT2 | exact absurd ppT2 nnT | exact absurd ppL nnL2 | exact absurd ppL2 nnL | exact absurd ppG nnG2 | exact absurd ppG2 nnG | exact absurd ppQ nnQ2 | exact absurd ppQ2 nnQ | exact absurd ppM nnM2 | exact absurd ppM2 nnM | exact absurd ppR nnR2 | exact absurd ppR2 nnR | exact absurd ppZ nnZ2 | exact absurd ppZ2 nnZ | exact absurd (ppR.symm.trans ppZ2) (by decide) | exact absurd (ppZ.symm.trans ppR2) (by decide)
    · skip
      replace v1 := v1.symm
      subst v1
      have nnV2 : ¬ ((¬ i3 < 0 ∧ ¬ 255 < i3) ∧ (¬ i4 < (-255) ∧ ¬ 255 < i4) ∧ (¬ i5 < (-255) ∧ ¬ 255 < i5)) := b0
      exact ⟨rfl, fun h => absurd h (by decide), hI⟩
    · skip
      replace v1 := v1.symm
      subst v1
      have ppV2 : (¬ i3 < 0 ∧ ¬ 255 < i3) ∧ (¬ i4 < (-255) ∧ ¬ 255 < i4) ∧ (¬ i5 < (-255) ∧ ¬ 255 < i5) := ⟨b0, b1, b2⟩
      have nnI2 : ¬ (∃ x y : Nat, x < 4 * cw0 ∧ y < 4 * ch0 ∧ i1 = nI x ∧ i2 = nI y) := fun ⟨x, y, h1, h2, h3, h4⟩ => b3 (by rw [h3, h4]; exact cs_in2 mw h1 (by omega) mh h2 (by omega))
      first | exact absurd ppS nnS2 | exact absurd ppS2 nnS | exact absurd ppV nnV2 | exact absurd ppV2 nnV | exact absurd ppI nnI2 | exact absurd ppI2 nnI | exact absurd ppK nnK2 | exact absurd ppK2 nnK | exact absurd ppT nnT2 | exact absurd ppT2 nnT | exact absurd ppL nnL2 | exact absurd ppL2 nnL | exact absurd ppG nnG2 | exact absurd ppG2 nnG | exact absurd ppQ nnQ2 | exact absurd ppQ2 nnQ | exact absurd ppM nnM2 | exact absurd ppM2 nnM | exact absurd ppR nnR2 | exact absurd ppR2 nnR | exact absurd ppZ nnZ2 | exact absurd ppZ2 nnZ | exact absurd (ppR.symm.trans ppZ2) (by decide) | exact absurd (ppZ.symm.trans ppR2) (by decide)
  · skip
    replace u0 := u0.symm
    subst u0
    replace u1 := u1.symm
    subst u1
    have ppV : (¬ i3 < 0 ∧ ¬ 255 < i3) ∧ (¬ i4 < (-255) ∧ ¬ 255 < i4) ∧ (¬ i5 < (-255) ∧ ¬ 255 < i5) := ⟨a0, a1, a2⟩
    have nnI : ¬ (∃ x y : Nat, x < 4 * cw0 ∧ y < 4 * ch0 ∧ i1 = nI x ∧ i2 = nI y) := fun ⟨x, y, h1, h2, h3, h4⟩ => a3 (by rw [h3, h4, ew, eh]; exact hasP_in (by omega) (by omega) (nI_lt h1 (by omega)) (nI_lt h2 (by omega)))
    rcases h2 with ⟨x2, y2, pw2, ph2, g0, g1, b0, b1, b2, b3, b4, b5, b6, b7, b8, rfl, rfl, rfl⟩ | ⟨b0, rfl, rfl, v1⟩ | ⟨b0, b1, b2, b3, rfl, rfl, v1⟩
    · skip
      have ppV2 : (¬ i3 < 0 ∧ ¬ 255 < i3) ∧ (¬ i4 < (-255) ∧ ¬ 255 < i4) ∧ (¬ i5 < (-255) ∧ ¬ 255 < i5) := ⟨b0, b1, b2⟩
      have ppI2 : ∃ x y : Nat, x < 4 * cw0 ∧ y < 4 * ch0 ∧ i1 = nI x ∧ i2 = nI y := ⟨x2, y2, by have q := nI_inj (b3.symm.trans mw) (by omega) (by omega); omega, by have q := nI_inj (b4.symm.trans mh) (by omega) (by omega); omega, g0, g1⟩
      first | exact absurd ppS nnS2 | exact absurd ppS2 nnS | exact absurd ppV nnV2 | exact absurd ppV2 nnV | exact absurd ppI nnI2 | exact absurd ppI2 nnI | exact absurd ppK nnK2 | exact absurd ppK2 nnK | exact absurd ppT nnT2 | exact absurd ppT2 nnT | exact absurd ppL nnL2 | exact absurd ppL2 nnL | exact absurd ppG nnG2 | exact absurd ppG2 nnG | exact absurd ppQ nnQ2 | exact absurd ppQ2 nnQ | exact absurd ppM nnM2 | exact absurd ppM2 nnM | exact absurd ppR nnR2 | exact absurd ppR2 nnR | exact absurd ppZ nnZ2 | exact absurd ppZ2 nnZ | exact absurd (ppR.symm.trans ppZ2) (by decide) | exact absurd (ppZ.symm.trans ppR2) (by decide)
    · skip
      replace v1 := v1.symm
      subst v1
      have nnV2 : ¬ ((¬ i3 < 0 ∧ ¬ 255 < i3) ∧ (¬ i4 < (-255) ∧ ¬ 255 < i4) ∧ (¬ i5 < (-255) ∧ ¬ 255 < i5)) := b0
      first | exact absurd ppS nnS2 | exact absurd ppS2 nnS | exact absurd ppV nnV2 | exact absurd ppV2 nnV | exact absurd ppI nnI2 | exact absurd ppI2 nnI | exact absurd ppK nnK2 | exact absurd ppK2 nnK | exact absurd ppT nnT2 | exact absurd ppT2 nnT | exact absurd ppL nnL2 | exact absurd ppL2 nnL | exact absurd ppG nnG2 | exact absurd ppG2 nnG | exact absurd ppQ nnQ2 | exact absurd ppQ2 nnQ | exact absurd ppM nnM2 | exact absurd ppM2 nnM | exact absurd ppR nnR2 | exact absurd ppR2 nnR | exact absurd ppZ nnZ2 | exact absurd ppZ2 nnZ | exact absurd (ppR.symm.trans ppZ2) (by decide) | exact absurd (ppZ.symm.trans ppR2) (by decide)
    · skip
      replace v1 := v1.symm
      subst v1
      have ppV2 : (¬ i3 < 0 ∧ ¬ 255 < i3) ∧ (¬ i4 < (-255) ∧ ¬ 255 < i4) ∧ (¬ i5 < (-255) ∧ ¬ 255 < i5) := ⟨b0, b1, b2⟩
      have nnI2 : ¬ (∃ x y : Nat, x < 4 * cw0 ∧ y < 4 * ch0 ∧ i1 = nI x ∧ i2 = nI y) := fun ⟨x, y, h1, h2, h3, h4⟩ => b3 (by rw [h3, h4]; exact cs_in2 mw h1 (by omega) mh h2 (by omega))
      exact ⟨rfl, fun h => absurd h (by decide), hI⟩
set_option maxHeartbeats 2000000 in
theorem p_count {px : Nat → Int32} {vz : Int32} {vw : Int32} {vh : Int32} {pxc : Nat → Int32} {mdc : Nat → Int32} {vzc : Int32} {vwc : Int32} {vhc : Int32} {vkc : Int32} {pxr : Nat → Int32} {mdr : Nat → Int32} {vzr : Int32} {vwr : Int32} {vhr : Int32} {vkr : Int32} {yt : Nat → Int32} {yl : Nat} {ibc : Int32} {ilc : Int32} {igl : Int32} {ibk : Int32} {ifa : Int32} {ibd : Int32} {wd : Nat → Int32} {hg : Nat → Int32} {pix : Nat → Int32} {str : Nat → Int32} {mds : Nat → Int32} {thr : Nat → Int32} {isz : Int32} {ibl : Int32} {ile : Int32} {igr : Int32} {mbk : Int32} {ist : Int32} {ibr : Int32} {fou : Nat → Int64} {i1 : Int32} {fouN : Nat → Int64} {ithN : Int32} {k : Int32} {bb : Int32} (hI : INV px vz vw vh pxc mdc vzc vwc vhc vkc pxr mdr vzr vwr vhr vkr yt yl ibc ilc igl ibk ifa ibd wd hg pix str mds thr isz ibl ile igr mbk ist ibr) (h1 : rx_count ibc ilc igl ibk ifa ibd vw vh fou i1 fouN k) (h2 : rm_count ibl ile igr mbk ist ibr wd hg i1 ithN bb) : ithN = k ∧ (k = 0 → fouN 0 = Int32.toInt64 bb) ∧ INV px vz vw vh pxc mdc vzc vwc vhc vkc pxr mdr vzr vwr vhr vkr yt yl ibc ilc igl ibk ifa ibd wd hg pix str mds thr isz ibl ile igr mbk ist ibr := by
  have hI0 := hI
  obtain ⟨⟨z0, t0, ⟨cw0, ch0, hcw0, hch0, ew, eh, mw, mh⟩, hpx⟩, A1, A2, B1, B2, ⟨es, hyl, hyt⟩, ⟨q1, q2, q3, q4, q5⟩, hPX⟩ := hI0
  unfold rx_count at h1
  unfold rm_count at h2
  rcases h1 with ⟨a0, rfl, rfl⟩ | ⟨a0, rfl, u0⟩
  · skip
    have ppV : ¬ i1 < 0 ∧ ¬ 7 < i1 := a0
    rcases h2 with ⟨b0, rfl, rfl⟩ | ⟨b0, rfl, rfl⟩
    · skip
      have ppV2 : ¬ i1 < 0 ∧ ¬ 7 < i1 := b0
      obtain ⟨n9, -, -, k3, k4, -⟩ := B2
      exact ⟨rfl, fun _ => by rw [updL0, ew, eh, mw, mh, q1, q2, q3, q4, q5, k3, k4], hI⟩
    · skip
      have nnV2 : ¬ (¬ i1 < 0 ∧ ¬ 7 < i1) := b0
      first | exact absurd ppS nnS2 | exact absurd ppS2 nnS | exact absurd ppV nnV2 | exact absurd ppV2 nnV | exact absurd ppI nnI2 | exact absurd ppI2 nnI | exact absurd ppK nnK2 | exact absurd ppK2 nnK | exact absurd ppT nnT2 | exact absurd ppT2 nnT | exact absurd ppL nnL2 | exact absurd ppL2 nnL | exact absurd ppG nnG2 | exact absurd ppG2 nnG | exact absurd ppQ nnQ2 | exact absurd ppQ2 nnQ | exact absurd ppM nnM2 | exact absurd ppM2 nnM | exact absurd ppR nnR2 | exact absurd ppR2 nnR | exact absurd ppZ nnZ2 | exact absurd ppZ2 nnZ | exact absurd (ppR.symm.trans ppZ2) (by decide) | exact absurd (ppZ.symm.trans ppR2) (by decide)
  · skip
    replace u0 := u0.symm
    subst u0
    have nnV : ¬ (¬ i1 < 0 ∧ ¬ 7 < i1) := a0
    rcases h2 with ⟨b0, rfl, rfl⟩ | ⟨b0, rfl, rfl⟩
    · skip
      have ppV2 : ¬ i1 < 0 ∧ ¬ 7 < i1 := b0
      first | exact absurd ppS nnS2 | exact absurd ppS2 nnS | exact absurd ppV nnV2 | exact absurd ppV2 nnV | exact absurd ppI nnI2 | exact absurd ppI2 nnI | exact absurd ppK nnK2 | exact absurd ppK2 nnK | exact absurd ppT nnT2 | exact absurd ppT2 nnT | exact absurd ppL nnL2 | exact absurd ppL2 nnL | exact absurd ppG nnG2 | exact absurd ppG2 nnG | exact absurd ppQ nnQ2 | exact absurd ppQ2 nnQ | exact absurd ppM nnM2 | exact absurd ppM2 nnM | exact absurd ppR nnR2 | exact absurd ppR2 nnR | exact absurd ppZ nnZ2 | exact absurd ppZ2 nnZ | exact absurd (ppR.symm.trans ppZ2) (by decide) | exact absurd (ppZ.symm.trans ppR2) (by decide)
    · skip
      have nnV2 : ¬ (¬ i1 < 0 ∧ ¬ 7 < i1) := b0
      exact ⟨rfl, fun h => absurd h (by decide), hI⟩
