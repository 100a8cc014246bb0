set_option maxHeartbeats 2000000 in
theorem p_stream {px : Nat → Int32} {vz : Int32} {vw : Int32} {vh : Int32} {pxc : Nat → Int32} {mdc : Nat → Int32} {vzc : Int32} {vwc : Int32} {vhc : Int32} {vkc : Int32} {pxr : Nat → Int32} {mdr : Nat → Int32} {vzr : Int32} {vwr : Int32} {vhr : Int32} {vkr : Int32} {yt : Nat → Int32} {yl : Nat} {ibc : Int32} {ilc : Int32} {igl : Int32} {ibk : Int32} {ifa : Int32} {ibd : Int32} {wd : Nat → Int32} {hg : Nat → Int32} {pix : Nat → Int32} {str : Nat → Int32} {mds : Nat → Int32} {thr : Nat → Int32} {isz : Int32} {ibl : Int32} {ile : Int32} {igr : Int32} {mbk : Int32} {ist : Int32} {ibr : Int32} {fou : Nat → Int64} {i1 : Int32} {fouN : Nat → Int64} {ithN : Int32} {k : Int32} {bb : Int32} (hI : INV px vz vw vh pxc mdc vzc vwc vhc vkc pxr mdr vzr vwr vhr vkr yt yl ibc ilc igl ibk ifa ibd wd hg pix str mds thr isz ibl ile igr mbk ist ibr) (h1 : rx_stream yl yt fou i1 fouN k) (h2 : rm_stream isz str i1 ithN bb) : ithN = k ∧ (k = 0 → fouN 0 = Int32.toInt64 bb) ∧ INV px vz vw vh pxc mdc vzc vwc vhc vkc pxr mdr vzr vwr vhr vkr yt yl ibc ilc igl ibk ifa ibd wd hg pix str mds thr isz ibl ile igr mbk ist ibr := by
  have hI0 := hI
  obtain ⟨⟨z0, t0, ⟨cw0, ch0, hcw0, hch0, ew, eh, mw, mh⟩, hpx⟩, A1, A2, B1, B2, ⟨es, hyl, hyt⟩, ⟨q1, q2, q3, q4, q5⟩, hPX⟩ := hI0
  unfold rx_stream at h1
  unfold rm_stream at h2
  rcases h1 with ⟨e0, rfl, rfl⟩ | ⟨k, e0, a0, a1, rfl, rfl⟩ | ⟨a0, a1, rfl, u0⟩
  · skip
    have pL : i1 = (-1) := e0
    rcases h2 with ⟨ns2, k2, g0, g1, b0, b1, rfl, rfl⟩ | ⟨ns2, g0, g1, b0, rfl, rfl⟩ | ⟨ns2, g0, b0, rfl, rfl⟩
    · skip
      have pK2 : ∃ k : Nat, k < yl ∧ i1 = nI k := ⟨k2, by have w := nI_inj (g1.symm.trans es) (by omega) (by omega); omega, g0⟩
      have nL2 : ¬ (i1 = (-1)) := by rw [g0]; exact cs_nm1 (by omega)
      first | exact absurd pS nS2 | exact absurd pS2 nS | exact absurd pV nV2 | exact absurd pV2 nV | exact absurd pI nI2 | exact absurd pI2 nI | exact absurd pK nK2 | exact absurd pK2 nK | exact absurd pT nT2 | exact absurd pT2 nT | exact absurd pL nL2 | exact absurd pL2 nL | exact absurd pG nG2 | exact absurd pG2 nG | exact absurd pQ nQ2 | exact absurd pQ2 nQ | exact absurd pM nM2 | exact absurd pM2 nM | exact absurd pR nR2 | exact absurd pR2 nR | exact absurd pZ nZ2 | exact absurd pZ2 nZ | exact absurd (pR.symm.trans pZ2) (by decide) | exact absurd (pZ.symm.trans pR2) (by decide)
    · skip
      have pL2 : i1 = (-1) := g0
      exact ⟨rfl, fun _ => by rw [updL0, ← g1, es], hI⟩
    · skip
      have nL2 : ¬ (i1 = (-1)) := fun h => b0 (by rw [h, ← g0, es]; exact ⟨by decide, cs_ns1 hyl⟩)
      have nK2 : ¬ (∃ k : Nat, k < yl ∧ i1 = nI k) := fun ⟨k, h1, h2⟩ => b0 (by rw [h2, ← g0, es]; exact ⟨cs_m1 (by omega), (cs_inN h1 (by omega)).2⟩)
      first | exact absurd pS nS2 | exact absurd pS2 nS | exact absurd pV nV2 | exact absurd pV2 nV | exact absurd pI nI2 | exact absurd pI2 nI | exact absurd pK nK2 | exact absurd pK2 nK | exact absurd pT nT2 | exact absurd pT2 nT | exact absurd pL nL2 | exact absurd pL2 nL | exact absurd pG nG2 | exact absurd pG2 nG | exact absurd pQ nQ2 | exact absurd pQ2 nQ | exact absurd pM nM2 | exact absurd pM2 nM | exact absurd pR nR2 | exact absurd pR2 nR | exact absurd pZ nZ2 | exact absurd pZ2 nZ | exact absurd (pR.symm.trans pZ2) (by decide) | exact absurd (pZ.symm.trans pR2) (by decide)
  · skip
    have pK : ∃ k : Nat, k < yl ∧ i1 = nI k := ⟨k, a1, e0⟩
    have nL : ¬ (i1 = (-1)) := by rw [e0]; exact cs_nm1 (by omega)
    rcases h2 with ⟨ns2, k2, g0, g1, b0, b1, rfl, rfl⟩ | ⟨ns2, g0, g1, b0, rfl, rfl⟩ | ⟨ns2, g0, b0, rfl, rfl⟩
    · skip
      have pK2 : ∃ k : Nat, k < yl ∧ i1 = nI k := ⟨k2, by have w := nI_inj (g1.symm.trans es) (by omega) (by omega); omega, g0⟩
      have nL2 : ¬ (i1 = (-1)) := by rw [g0]; exact cs_nm1 (by omega)
      have w1 := nI_inj (e0.symm.trans g0) (by omega) (by omega)
      subst w1
      exact ⟨rfl, fun _ => by rw [updL0, (hyt _ a1).1], hI⟩
    · skip
      have pL2 : i1 = (-1) := g0
      first | exact absurd pS nS2 | exact absurd pS2 nS | exact absurd pV nV2 | exact absurd pV2 nV | exact absurd pI nI2 | exact absurd pI2 nI | exact absurd pK nK2 | exact absurd pK2 nK | exact absurd pT nT2 | exact absurd pT2 nT | exact absurd pL nL2 | exact absurd pL2 nL | exact absurd pG nG2 | exact absurd pG2 nG | exact absurd pQ nQ2 | exact absurd pQ2 nQ | exact absurd pM nM2 | exact absurd pM2 nM | exact absurd pR nR2 | exact absurd pR2 nR | exact absurd pZ nZ2 | exact absurd pZ2 nZ | exact absurd (pR.symm.trans pZ2) (by decide) | exact absurd (pZ.symm.trans pR2) (by decide)
    · skip
      have nL2 : ¬ (i1 = (-1)) := fun h => b0 (by rw [h, ← g0, es]; exact ⟨by decide, cs_ns1 hyl⟩)
      have nK2 : ¬ (∃ k : Nat, k < yl ∧ i1 = nI k) := fun ⟨k, h1, h2⟩ => b0 (by rw [h2, ← g0, es]; exact ⟨cs_m1 (by omega), (cs_inN h1 (by omega)).2⟩)
      first | exact absurd pS nS2 | exact absurd pS2 nS | exact absurd pV nV2 | exact absurd pV2 nV | exact absurd pI nI2 | exact absurd pI2 nI | exact absurd pK nK2 | exact absurd pK2 nK | exact absurd pT nT2 | exact absurd pT2 nT | exact absurd pL nL2 | exact absurd pL2 nL | exact absurd pG nG2 | exact absurd pG2 nG | exact absurd pQ nQ2 | exact absurd pQ2 nQ | exact absurd pM nM2 | exact absurd pM2 nM | exact absurd pR nR2 | exact absurd pR2 nR | exact absurd pZ nZ2 | exact absurd pZ2 nZ | exact absurd (pR.symm.trans pZ2) (by decide) | exact absurd (pZ.symm.trans pR2) (by decide)
  · skip
    replace u0 := u0.symm
    subst u0
    have nL : ¬ (i1 = (-1)) := a0
    have nK : ¬ (∃ k : Nat, k < yl ∧ i1 = nI k) := fun ⟨k, h1, h2⟩ => a1 (by rw [h2]; exact ⟨nI_pos (by omega), nI_ge h1 (by omega), nI_ge (b := 400) (by omega) (by decide)⟩)
    rcases h2 with ⟨ns2, k2, g0, g1, b0, b1, rfl, rfl⟩ | ⟨ns2, g0, g1, b0, rfl, rfl⟩ | ⟨ns2, g0, b0, rfl, rfl⟩
    · skip
      have pK2 : ∃ k : Nat, k < yl ∧ i1 = nI k := ⟨k2, by have w := nI_inj (g1.symm.trans es) (by omega) (by omega); omega, g0⟩
      have nL2 : ¬ (i1 = (-1)) := by rw [g0]; exact cs_nm1 (by omega)
      first | exact absurd pS nS2 | exact absurd pS2 nS | exact absurd pV nV2 | exact absurd pV2 nV | exact absurd pI nI2 | exact absurd pI2 nI | exact absurd pK nK2 | exact absurd pK2 nK | exact absurd pT nT2 | exact absurd pT2 nT | exact absurd pL nL2 | exact absurd pL2 nL | exact absurd pG nG2 | exact absurd pG2 nG | exact absurd pQ nQ2 | exact absurd pQ2 nQ | exact absurd pM nM2 | exact absurd pM2 nM | exact absurd pR nR2 | exact absurd pR2 nR | exact absurd pZ nZ2 | exact absurd pZ2 nZ | exact absurd (pR.symm.trans pZ2) (by decide) | exact absurd (pZ.symm.trans pR2) (by decide)
    · skip
      have pL2 : i1 = (-1) := g0
      first | exact absurd pS nS2 | exact absurd pS2 nS | exact absurd pV nV2 | exact absurd pV2 nV | exact absurd pI nI2 | exact absurd pI2 nI | exact absurd pK nK2 | exact absurd pK2 nK | exact absurd pT nT2 | exact absurd pT2 nT | exact absurd pL nL2 | exact absurd pL2 nL | exact absurd pG nG2 | exact absurd pG2 nG | exact absurd pQ nQ2 | exact absurd pQ2 nQ | exact absurd pM nM2 | exact absurd pM2 nM | exact absurd pR nR2 | exact absurd pR2 nR | exact absurd pZ nZ2 | exact absurd pZ2 nZ | exact absurd (pR.symm.trans pZ2) (by decide) | exact absurd (pZ.symm.trans pR2) (by decide)
    · skip
      have nL2 : ¬ (i1 = (-1)) := fun h => b0 (by rw [h, ← g0, es]; exact ⟨by decide, cs_ns1 hyl⟩)
      have nK2 : ¬ (∃ k : Nat, k < yl ∧ i1 = nI k) := fun ⟨k, h1, h2⟩ => b0 (by rw [h2, ← g0, es]; exact ⟨cs_m1 (by omega), (cs_inN h1 (by omega)).2⟩)
      exact ⟨rfl, fun h => absurd h (by decide), hI⟩
set_option maxHeartbeats 2000000 in
theorem p_damage {px : Nat → Int32} {vz : Int32} {vw : Int32} {vh : Int32} {pxc : Nat → Int32} {mdc : Nat → Int32} {vzc : Int32} {vwc : Int32} {vhc : Int32} {vkc : Int32} {pxr : Nat → Int32} {mdr : Nat → Int32} {vzr : Int32} {vwr : Int32} {vhr : Int32} {vkr : Int32} {yt : Nat → Int32} {yl : Nat} {ibc : Int32} {ilc : Int32} {igl : Int32} {ibk : Int32} {ifa : Int32} {ibd : Int32} {wd : Nat → Int32} {hg : Nat → Int32} {pix : Nat → Int32} {str : Nat → Int32} {mds : Nat → Int32} {thr : Nat → Int32} {isz : Int32} {ibl : Int32} {ile : Int32} {igr : Int32} {mbk : Int32} {ist : Int32} {ibr : Int32} {fou : Nat → Int64} {i1 : Int32} {i2 : Int32} {ylN : Nat} {ytN : Nat → Int32} {fouN : Nat → Int64} {iszN : Int32} {ithN : Int32} {strN : Nat → Int32} {k : Int32} {bb : Int32} (hI : INV px vz vw vh pxc mdc vzc vwc vhc vkc pxr mdr vzr vwr vhr vkr yt yl ibc ilc igl ibk ifa ibd wd hg pix str mds thr isz ibl ile igr mbk ist ibr) (h1 : rx_damage yl yt fou i1 i2 ylN ytN fouN k) (h2 : rm_damage isz str i1 i2 iszN ithN strN bb) : ithN = k ∧ (k = 0 → fouN 0 = Int32.toInt64 bb) ∧ INV px vz vw vh pxc mdc vzc vwc vhc vkc pxr mdr vzr vwr vhr vkr ytN ylN ibc ilc igl ibk ifa ibd wd hg pix strN mds thr iszN ibl ile igr mbk ist ibr := by
  have hI0 := hI
  obtain ⟨⟨z0, t0, ⟨cw0, ch0, hcw0, hch0, ew, eh, mw, mh⟩, hpx⟩, A1, A2, B1, B2, ⟨es, hyl, hyt⟩, ⟨q1, q2, q3, q4, q5⟩, hPX⟩ := hI0
  unfold rx_damage at h1
  unfold rm_damage at h2
  rcases h1 with ⟨k, e0, a0, a1, a2, rfl, u0, rfl, rfl⟩ | ⟨e0, a0, a1, rfl, rfl, rfl, rfl⟩ | ⟨a0, rfl, u0, u1, u2⟩ | ⟨a0, a1, rfl, u0, u1, u2⟩
  · skip
    replace u0 := u0.symm
    subst u0
    have pV : ¬ i2 < 0 ∧ ¬ 255 < i2 := a1
    have pK : ∃ k : Nat, k < yl ∧ i1 = nI k := ⟨k, a2, e0⟩
    rcases h2 with ⟨ns2, k2, g0, g1, b0, b1, b2, rfl, rfl, rfl, rfl⟩ | ⟨ns2, g0, g1, b0, b1, rfl, rfl, rfl, rfl⟩ | ⟨b0, rfl, v0, rfl, v2⟩ | ⟨ns2, g0, b0, b1, rfl, rfl, rfl, v2⟩
    · skip
      have pV2 : ¬ i2 < 0 ∧ ¬ 255 < i2 := b1
      have pK2 : ∃ k : Nat, k < yl ∧ i1 = nI k := ⟨k2, by have w := nI_inj (g1.symm.trans es) (by omega) (by omega); omega, g0⟩
      have w1 := nI_inj (e0.symm.trans g0) (by omega) (by omega)
      subst w1
      exact ⟨rfl, fun _ => by rw [updL0, (hyt _ a2).1], inv_byte a2 (sm_of a1) g1 hI⟩
    · skip
      have pV2 : ¬ i2 < 0 ∧ ¬ 255 < i2 := b1
      have pT2 : yl < 400 ∧ i1 = nI yl := ⟨by have w := nI_inj (g1.symm.trans es) (by omega) (by omega); omega, g0.trans (g1.symm.trans es)⟩
      have nK2 : ¬ (∃ k : Nat, k < yl ∧ i1 = nI k) := fun ⟨k, h1, h2⟩ => by have w := nI_inj (g1.symm.trans es) (by omega) (by omega); have w2 := nI_inj (g0.symm.trans h2) (by omega) (by omega); omega
      first | exact absurd pS nS2 | exact absurd pS2 nS | exact absurd pV nV2 | exact absurd pV2 nV | exact absurd pI nI2 | exact absurd pI2 nI | exact absurd pK nK2 | exact absurd pK2 nK | exact absurd pT nT2 | exact absurd pT2 nT | exact absurd pL nL2 | exact absurd pL2 nL | exact absurd pG nG2 | exact absurd pG2 nG | exact absurd pQ nQ2 | exact absurd pQ2 nQ | exact absurd pM nM2 | exact absurd pM2 nM | exact absurd pR nR2 | exact absurd pR2 nR | exact absurd pZ nZ2 | exact absurd pZ2 nZ | exact absurd (pR.symm.trans pZ2) (by decide) | exact absurd (pZ.symm.trans pR2) (by decide)
    · skip
      replace v0 := v0.symm
      subst v0
      replace v2 := v2.symm
      subst v2
      have nV2 : ¬ (¬ i2 < 0 ∧ ¬ 255 < i2) := b0
      first | exact absurd pS nS2 | exact absurd pS2 nS | exact absurd pV nV2 | exact absurd pV2 nV | exact absurd pI nI2 | exact absurd pI2 nI | exact absurd pK nK2 | exact absurd pK2 nK | exact absurd pT nT2 | exact absurd pT2 nT | exact absurd pL nL2 | exact absurd pL2 nL | exact absurd pG nG2 | exact absurd pG2 nG | exact absurd pQ nQ2 | exact absurd pQ2 nQ | exact absurd pM nM2 | exact absurd pM2 nM | exact absurd pR nR2 | exact absurd pR2 nR | exact absurd pZ nZ2 | exact absurd pZ2 nZ | exact absurd (pR.symm.trans pZ2) (by decide) | exact absurd (pZ.symm.trans pR2) (by decide)
    · skip
      replace v2 := v2.symm
      subst v2
      have pV2 : ¬ i2 < 0 ∧ ¬ 255 < i2 := b0
      have nK2 : ¬ (∃ k : Nat, k < yl ∧ i1 = nI k) := fun ⟨k, h1, h2⟩ => b1.elim (fun h => h (by rw [h2, ← g0, es]; exact cs_inL (by omega) (by omega))) (fun h => by have w := nI_inj (b := 400) (h2.symm.trans h) (by omega) (by decide); omega)
      have nT2 : ¬ (yl < 400 ∧ i1 = nI yl) := fun ⟨h1, h2⟩ => b1.elim (fun h => h (by rw [h2, ← g0, es]; exact cs_inL (by omega) (by omega))) (fun h => by have w := nI_inj (b := 400) (h2.symm.trans h) (by omega) (by decide); omega)
      first | exact absurd pS nS2 | exact absurd pS2 nS | exact absurd pV nV2 | exact absurd pV2 nV | exact absurd pI nI2 | exact absurd pI2 nI | exact absurd pK nK2 | exact absurd pK2 nK | exact absurd pT nT2 | exact absurd pT2 nT | exact absurd pL nL2 | exact absurd pL2 nL | exact absurd pG nG2 | exact absurd pG2 nG | exact absurd pQ nQ2 | exact absurd pQ2 nQ | exact absurd pM nM2 | exact absurd pM2 nM | exact absurd pR nR2 | exact absurd pR2 nR | exact absurd pZ nZ2 | exact absurd pZ2 nZ | exact absurd (pR.symm.trans pZ2) (by decide) | exact absurd (pZ.symm.trans pR2) (by decide)
  · skip
    have pV : ¬ i2 < 0 ∧ ¬ 255 < i2 := a1
    have pT : yl < 400 ∧ i1 = nI yl := ⟨a0, e0⟩
    have nK : ¬ (∃ k : Nat, k < yl ∧ i1 = nI k) := fun ⟨k, h1, h2⟩ => by have w := nI_inj (e0.symm.trans h2) (by omega) (by omega); omega
    rcases h2 with ⟨ns2, k2, g0, g1, b0, b1, b2, rfl, rfl, rfl, rfl⟩ | ⟨ns2, g0, g1, b0, b1, rfl, rfl, rfl, rfl⟩ | ⟨b0, rfl, v0, rfl, v2⟩ | ⟨ns2, g0, b0, b1, rfl, rfl, rfl, v2⟩
    · skip
      have pV2 : ¬ i2 < 0 ∧ ¬ 255 < i2 := b1
      have pK2 : ∃ k : Nat, k < yl ∧ i1 = nI k := ⟨k2, by have w := nI_inj (g1.symm.trans es) (by omega) (by omega); omega, g0⟩
      first | exact absurd pS nS2 | exact absurd pS2 nS | exact absurd pV nV2 | exact absurd pV2 nV | exact absurd pI nI2 | exact absurd pI2 nI | exact absurd pK nK2 | exact absurd pK2 nK | exact absurd pT nT2 | exact absurd pT2 nT | exact absurd pL nL2 | exact absurd pL2 nL | exact absurd pG nG2 | exact absurd pG2 nG | exact absurd pQ nQ2 | exact absurd pQ2 nQ | exact absurd pM nM2 | exact absurd pM2 nM | exact absurd pR nR2 | exact absurd pR2 nR | exact absurd pZ nZ2 | exact absurd pZ2 nZ | exact absurd (pR.symm.trans pZ2) (by decide) | exact absurd (pZ.symm.trans pR2) (by decide)
    · skip
      have pV2 : ¬ i2 < 0 ∧ ¬ 255 < i2 := b1
      have pT2 : yl < 400 ∧ i1 = nI yl := ⟨by have w := nI_inj (g1.symm.trans es) (by omega) (by omega); omega, g0.trans (g1.symm.trans es)⟩
      have nK2 : ¬ (∃ k : Nat, k < yl ∧ i1 = nI k) := fun ⟨k, h1, h2⟩ => by have w := nI_inj (g1.symm.trans es) (by omega) (by omega); have w2 := nI_inj (g0.symm.trans h2) (by omega) (by omega); omega
      exact ⟨rfl, fun _ => updL0 _ _, inv_more a0 (sm_of a1) g1 b0 hI⟩
    · skip
      replace v0 := v0.symm
      subst v0
      replace v2 := v2.symm
      subst v2
      have nV2 : ¬ (¬ i2 < 0 ∧ ¬ 255 < i2) := b0
      first | exact absurd pS nS2 | exact absurd pS2 nS | exact absurd pV nV2 | exact absurd pV2 nV | exact absurd pI nI2 | exact absurd pI2 nI | exact absurd pK nK2 | exact absurd pK2 nK | exact absurd pT nT2 | exact absurd pT2 nT | exact absurd pL nL2 | exact absurd pL2 nL | exact absurd pG nG2 | exact absurd pG2 nG | exact absurd pQ nQ2 | exact absurd pQ2 nQ | exact absurd pM nM2 | exact absurd pM2 nM | exact absurd pR nR2 | exact absurd pR2 nR | exact absurd pZ nZ2 | exact absurd pZ2 nZ | exact absurd (pR.symm.trans pZ2) (by decide) | exact absurd (pZ.symm.trans pR2) (by decide)
    · skip
      replace v2 := v2.symm
      subst v2
      have pV2 : ¬ i2 < 0 ∧ ¬ 255 < i2 := b0
      have nK2 : ¬ (∃ k : Nat, k < yl ∧ i1 = nI k) := fun ⟨k, h1, h2⟩ => b1.elim (fun h => h (by rw [h2, ← g0, es]; exact cs_inL (by omega) (by omega))) (fun h => by have w := nI_inj (b := 400) (h2.symm.trans h) (by omega) (by decide); omega)
      have nT2 : ¬ (yl < 400 ∧ i1 = nI yl) := fun ⟨h1, h2⟩ => b1.elim (fun h => h (by rw [h2, ← g0, es]; exact cs_inL (by omega) (by omega))) (fun h => by have w := nI_inj (b := 400) (h2.symm.trans h) (by omega) (by decide); omega)
      first | exact absurd pS nS2 | exact absurd pS2 nS | exact absurd pV nV2 | exact absurd pV2 nV | exact absurd pI nI2 | exact absurd pI2 nI | exact absurd pK nK2 | exact absurd pK2 nK | exact absurd pT nT2 | exact absurd pT2 nT | exact absurd pL nL2 | exact absurd pL2 nL | exact absurd pG nG2 | exact absurd pG2 nG | exact absurd pQ nQ2 | exact absurd pQ2 nQ | exact absurd pM nM2 | exact absurd pM2 nM | exact absurd pR nR2 | exact absurd pR2 nR | exact absurd pZ nZ2 | exact absurd pZ2 nZ | exact absurd (pR.symm.trans pZ2) (by decide) | exact absurd (pZ.symm.trans pR2) (by decide)
  · skip
    replace u0 := u0.symm
    subst u0
    replace u1 := u1.symm
    subst u1
    replace u2 := u2.symm
    subst u2
    have nV : ¬ (¬ i2 < 0 ∧ ¬ 255 < i2) := a0
    rcases h2 with ⟨ns2, k2, g0, g1, b0, b1, b2, rfl, rfl, rfl, rfl⟩ | ⟨ns2, g0, g1, b0, b1, rfl, rfl, rfl, rfl⟩ | ⟨b0, rfl, v0, rfl, v2⟩ | ⟨ns2, g0, b0, b1, rfl, rfl, rfl, v2⟩
    · skip
      have pV2 : ¬ i2 < 0 ∧ ¬ 255 < i2 := b1
      have pK2 : ∃ k : Nat, k < yl ∧ i1 = nI k := ⟨k2, by have w := nI_inj (g1.symm.trans es) (by omega) (by omega); omega, g0⟩
      first | exact absurd pS nS2 | exact absurd pS2 nS | exact absurd pV nV2 | exact absurd pV2 nV | exact absurd pI nI2 | exact absurd pI2 nI | exact absurd pK nK2 | exact absurd pK2 nK | exact absurd pT nT2 | exact absurd pT2 nT | exact absurd pL nL2 | exact absurd pL2 nL | exact absurd pG nG2 | exact absurd pG2 nG | exact absurd pQ nQ2 | exact absurd pQ2 nQ | exact absurd pM nM2 | exact absurd pM2 nM | exact absurd pR nR2 | exact absurd pR2 nR | exact absurd pZ nZ2 | exact absurd pZ2 nZ | exact absurd (pR.symm.trans pZ2) (by decide) | exact absurd (pZ.symm.trans pR2) (by decide)
    · skip
      have pV2 : ¬ i2 < 0 ∧ ¬ 255 < i2 := b1
      have pT2 : yl < 400 ∧ i1 = nI yl := ⟨by have w := nI_inj (g1.symm.trans es) (by omega) (by omega); omega, g0.trans (g1.symm.trans es)⟩
      have nK2 : ¬ (∃ k : Nat, k < yl ∧ i1 = nI k) := fun ⟨k, h1, h2⟩ => by have w := nI_inj (g1.symm.trans es) (by omega) (by omega); have w2 := nI_inj (g0.symm.trans h2) (by omega) (by omega); omega
      first | exact absurd pS nS2 | exact absurd pS2 nS | exact absurd pV nV2 | exact absurd pV2 nV | exact absurd pI nI2 | exact absurd pI2 nI | exact absurd pK nK2 | exact absurd pK2 nK | exact absurd pT nT2 | exact absurd pT2 nT | exact absurd pL nL2 | exact absurd pL2 nL | exact absurd pG nG2 | exact absurd pG2 nG | exact absurd pQ nQ2 | exact absurd pQ2 nQ | exact absurd pM nM2 | exact absurd pM2 nM | exact absurd pR nR2 | exact absurd pR2 nR | exact absurd pZ nZ2 | exact absurd pZ2 nZ | exact absurd (pR.symm.trans pZ2) (by decide) | exact absurd (pZ.symm.trans pR2) (by decide)
    · skip
      replace v0 := v0.symm
      subst v0
      replace v2 := v2.symm
      subst v2
      have nV2 : ¬ (¬ i2 < 0 ∧ ¬ 255 < i2) := b0
      exact ⟨rfl, fun h => absurd h (by decide), hI⟩
    · skip
      replace v2 := v2.symm
      subst v2
      have pV2 : ¬ i2 < 0 ∧ ¬ 255 < i2 := b0
      have nK2 : ¬ (∃ k : Nat, k < yl ∧ i1 = nI k) := fun ⟨k, h1, h2⟩ => b1.elim (fun h => h (by rw [h2, ← g0, es]; exact cs_inL (by omega) (by omega))) (fun h => by have w := nI_inj (b := 400) (h2.symm.trans h) (by omega) (by decide); omega)
      have nT2 : ¬ (yl < 400 ∧ i1 = nI yl) := fun ⟨h1, h2⟩ => b1.elim (fun h => h (by rw [h2, ← g0, es]; exact cs_inL (by omega) (by omega))) (fun h => by have w := nI_inj (b := 400) (h2.symm.trans h) (by omega) (by decide); omega)
      first | exact absurd pS nS2 | exact absurd pS2 nS | exact absurd pV nV2 | exact absurd pV2 nV | exact absurd pI nI2 | exact absurd pI2 nI | exact absurd pK nK2 | exact absurd pK2 nK | exact absurd pT nT2 | exact absurd pT2 nT | exact absurd pL nL2 | exact absurd pL2 nL | exact absurd pG nG2 | exact absurd pG2 nG | exact absurd pQ nQ2 | exact absurd pQ2 nQ | exact absurd pM nM2 | exact absurd pM2 nM | exact absurd pR nR2 | exact absurd pR2 nR | exact absurd pZ nZ2 | exact absurd pZ2 nZ | exact absurd (pR.symm.trans pZ2) (by decide) | exact absurd (pZ.symm.trans pR2) (by decide)
  · skip
    replace u0 := u0.symm
    subst u0
    replace u1 := u1.symm
    subst u1
    replace u2 := u2.symm
    subst u2
    have pV : ¬ i2 < 0 ∧ ¬ 255 < i2 := a0
    have nK : ¬ (∃ k : Nat, k < yl ∧ i1 = nI k) := fun ⟨k, h1, h2⟩ => a1 (by rw [h2]; exact ⟨nI_pos (by omega), fun q => absurd ((nI_ltI (a := yl) (b := k) (by omega) (by omega)).mp q) (by omega), nI_lt (b := 400) (by omega) (by decide)⟩)
    have nT : ¬ (yl < 400 ∧ i1 = nI yl) := fun ⟨h1, h2⟩ => a1 (by rw [h2]; exact ⟨nI_pos (by omega), Int32.lt_irrefl, nI_lt (b := 400) (by omega) (by decide)⟩)
    rcases h2 with ⟨ns2, k2, g0, g1, b0, b1, b2, rfl, rfl, rfl, rfl⟩ | ⟨ns2, g0, g1, b0, b1, rfl, rfl, rfl, rfl⟩ | ⟨b0, rfl, v0, rfl, v2⟩ | ⟨ns2, g0, b0, b1, rfl, rfl, rfl, v2⟩
    · skip
      have pV2 : ¬ i2 < 0 ∧ ¬ 255 < i2 := b1
      have pK2 : ∃ k : Nat, k < yl ∧ i1 = nI k := ⟨k2, by have w := nI_inj (g1.symm.trans es) (by omega) (by omega); omega, g0⟩
      first | exact absurd pS nS2 | exact absurd pS2 nS | exact absurd pV nV2 | exact absurd pV2 nV | exact absurd pI nI2 | exact absurd pI2 nI | exact absurd pK nK2 | exact absurd pK2 nK | exact absurd pT nT2 | exact absurd pT2 nT | exact absurd pL nL2 | exact absurd pL2 nL | exact absurd pG nG2 | exact absurd pG2 nG | exact absurd pQ nQ2 | exact absurd pQ2 nQ | exact absurd pM nM2 | exact absurd pM2 nM | exact absurd pR nR2 | exact absurd pR2 nR | exact absurd pZ nZ2 | exact absurd pZ2 nZ | exact absurd (pR.symm.trans pZ2) (by decide) | exact absurd (pZ.symm.trans pR2) (by decide)
    · skip
      have pV2 : ¬ i2 < 0 ∧ ¬ 255 < i2 := b1
      have pT2 : yl < 400 ∧ i1 = nI yl := ⟨by have w := nI_inj (g1.symm.trans es) (by omega) (by omega); omega, g0.trans (g1.symm.trans es)⟩
      have nK2 : ¬ (∃ k : Nat, k < yl ∧ i1 = nI k) := fun ⟨k, h1, h2⟩ => by have w := nI_inj (g1.symm.trans es) (by omega) (by omega); have w2 := nI_inj (g0.symm.trans h2) (by omega) (by omega); omega
      first | exact absurd pS nS2 | exact absurd pS2 nS | exact absurd pV nV2 | exact absurd pV2 nV | exact absurd pI nI2 | exact absurd pI2 nI | exact absurd pK nK2 | exact absurd pK2 nK | exact absurd pT nT2 | exact absurd pT2 nT | exact absurd pL nL2 | exact absurd pL2 nL | exact absurd pG nG2 | exact absurd pG2 nG | exact absurd pQ nQ2 | exact absurd pQ2 nQ | exact absurd pM nM2 | exact absurd pM2 nM | exact absurd pR nR2 | exact absurd pR2 nR | exact absurd pZ nZ2 | exact absurd pZ2 nZ | exact absurd (pR.symm.trans pZ2) (by decide) | exact absurd (pZ.symm.trans pR2) (by decide)
    · skip
      replace v0 := v0.symm
      subst v0
      replace v2 := v2.symm
      subst v2
      have nV2 : ¬ (¬ i2 < 0 ∧ ¬ 255 < i2) := b0
      first | exact absurd pS nS2 | exact absurd pS2 nS | exact absurd pV nV2 | exact absurd pV2 nV | exact absurd pI nI2 | exact absurd pI2 nI | exact absurd pK nK2 | exact absurd pK2 nK | exact absurd pT nT2 | exact absurd pT2 nT | exact absurd pL nL2 | exact absurd pL2 nL | exact absurd pG nG2 | exact absurd pG2 nG | exact absurd pQ nQ2 | exact absurd pQ2 nQ | exact absurd pM nM2 | exact absurd pM2 nM | exact absurd pR nR2 | exact absurd pR2 nR | exact absurd pZ nZ2 | exact absurd pZ2 nZ | exact absurd (pR.symm.trans pZ2) (by decide) | exact absurd (pZ.symm.trans pR2) (by decide)
    · skip
      replace v2 := v2.symm
      subst v2
      have pV2 : ¬ i2 < 0 ∧ ¬ 255 < i2 := b0
      have nK2 : ¬ (∃ k : Nat, k < yl ∧ i1 = nI k) := fun ⟨k, h1, h2⟩ => b1.elim (fun h => h (by rw [h2, ← g0, es]; exact cs_inL (by omega) (by omega))) (fun h => by have w := nI_inj (b := 400) (h2.symm.trans h) (by omega) (by decide); omega)
      have nT2 : ¬ (yl < 400 ∧ i1 = nI yl) := fun ⟨h1, h2⟩ => b1.elim (fun h => h (by rw [h2, ← g0, es]; exact cs_inL (by omega) (by omega))) (fun h => by have w := nI_inj (b := 400) (h2.symm.trans h) (by omega) (by decide); omega)
      rw [g0] at hI
      exact ⟨rfl, fun h => absurd h (by decide), hI⟩
set_option maxHeartbeats 2000000 in
theorem p_cut {px : Nat → Int32} {vz : Int32} {vw : Int32} {vh : Int32} {pxc : Nat → Int32} {mdc : Nat → Int32} {vzc : Int32} {vwc : Int32} {vhc : Int32} {vkc : Int32} {pxr : Nat → Int32} {mdr : Nat → Int32} {vzr : Int32} {vwr : Int32} {vhr : Int32} {vkr : Int32} {yt : Nat → Int32} {yl : Nat} {ibc : Int32} {ilc : Int32} {igl : Int32} {ibk : Int32} {ifa : Int32} {ibd : Int32} {wd : Nat → Int32} {hg : Nat → Int32} {pix : Nat → Int32} {str : Nat → Int32} {mds : Nat → Int32} {thr : Nat → Int32} {isz : Int32} {ibl : Int32} {ile : Int32} {igr : Int32} {mbk : Int32} {ist : Int32} {ibr : Int32} {fou : Nat → Int64} {i1 : Int32} {ylN : Nat} {fouN : Nat → Int64} {iszN : Int32} {ithN : Int32} {k : Int32} {bb : Int32} (hI : INV px vz vw vh pxc mdc vzc vwc vhc vkc pxr mdr vzr vwr vhr vkr yt yl ibc ilc igl ibk ifa ibd wd hg pix str mds thr isz ibl ile igr mbk ist ibr) (h1 : rx_cut yl fou i1 ylN fouN k) (h2 : rm_cut isz i1 iszN ithN bb) : ithN = k ∧ (k = 0 → fouN 0 = Int32.toInt64 bb) ∧ INV px vz vw vh pxc mdc vzc vwc vhc vkc pxr mdr vzr vwr vhr vkr yt ylN ibc ilc igl ibk ifa ibd wd hg pix str mds thr iszN ibl ile igr mbk ist ibr := by
  have hI0 := hI
  obtain ⟨⟨z0, t0, ⟨cw0, ch0, hcw0, hch0, ew, eh, mw, mh⟩, hpx⟩, A1, A2, B1, B2, ⟨es, hyl, hyt⟩, ⟨q1, q2, q3, q4, q5⟩, hPX⟩ := hI0
  unfold rx_cut at h1
  unfold rm_cut at h2
  rcases h1 with ⟨k, e0, a0, a1, rfl, u0, rfl⟩ | ⟨a0, rfl, u0, u1⟩
  · skip
    replace u0 := u0.symm
    subst u0
    have pK : ∃ k : Nat, k ≤ yl ∧ i1 = nI k := ⟨k, a1, e0⟩
    rcases h2 with ⟨ns2, k2, g0, g1, b0, b1, rfl, rfl, rfl⟩ | ⟨ns2, g0, b0, rfl, rfl, rfl⟩
    · skip
      have pK2 : ∃ k : Nat, k ≤ yl ∧ i1 = nI k := ⟨k2, by have w := nI_inj (g1.symm.trans es) (by omega) (by omega); omega, g0⟩
      have w1 := nI_inj (e0.symm.trans g0) (by omega) (by omega)
      subst w1
      exact ⟨rfl, fun _ => by rw [updL0, ← g1, es], inv_cut a1 hI⟩
    · skip
      have nK2 : ¬ (∃ k : Nat, k ≤ yl ∧ i1 = nI k) := fun ⟨k, h1, h2⟩ => b0 (by rw [h2, ← g0, es]; exact cs_inL h1 (by omega))
      first | exact absurd pS nS2 | exact absurd pS2 nS | exact absurd pV nV2 | exact absurd pV2 nV | exact absurd pI nI2 | exact absurd pI2 nI | exact absurd pK nK2 | exact absurd pK2 nK | exact absurd pT nT2 | exact absurd pT2 nT | exact absurd pL nL2 | exact absurd pL2 nL | exact absurd pG nG2 | exact absurd pG2 nG | exact absurd pQ nQ2 | exact absurd pQ2 nQ | exact absurd pM nM2 | exact absurd pM2 nM | exact absurd pR nR2 | exact absurd pR2 nR | exact absurd pZ nZ2 | exact absurd pZ2 nZ | exact absurd (pR.symm.trans pZ2) (by decide) | exact absurd (pZ.symm.trans pR2) (by decide)
  · skip
    replace u0 := u0.symm
    subst u0
    replace u1 := u1.symm
    subst u1
    have nK : ¬ (∃ k : Nat, k ≤ yl ∧ i1 = nI k) := fun ⟨k, h1, h2⟩ => a0 (by rw [h2]; exact cs_inL h1 (by omega))
    rcases h2 with ⟨ns2, k2, g0, g1, b0, b1, rfl, rfl, rfl⟩ | ⟨ns2, g0, b0, rfl, rfl, rfl⟩
    · skip
      have pK2 : ∃ k : Nat, k ≤ yl ∧ i1 = nI k := ⟨k2, by have w := nI_inj (g1.symm.trans es) (by omega) (by omega); omega, g0⟩
      first | exact absurd pS nS2 | exact absurd pS2 nS | exact absurd pV nV2 | exact absurd pV2 nV | exact absurd pI nI2 | exact absurd pI2 nI | exact absurd pK nK2 | exact absurd pK2 nK | exact absurd pT nT2 | exact absurd pT2 nT | exact absurd pL nL2 | exact absurd pL2 nL | exact absurd pG nG2 | exact absurd pG2 nG | exact absurd pQ nQ2 | exact absurd pQ2 nQ | exact absurd pM nM2 | exact absurd pM2 nM | exact absurd pR nR2 | exact absurd pR2 nR | exact absurd pZ nZ2 | exact absurd pZ2 nZ | exact absurd (pR.symm.trans pZ2) (by decide) | exact absurd (pZ.symm.trans pR2) (by decide)
    · skip
      have nK2 : ¬ (∃ k : Nat, k ≤ yl ∧ i1 = nI k) := fun ⟨k, h1, h2⟩ => b0 (by rw [h2, ← g0, es]; exact cs_inL h1 (by omega))
      rw [g0] at hI
      exact ⟨rfl, fun h => absurd h (by decide), hI⟩
set_option maxHeartbeats 2000000 in
theorem p_mode {px : Nat → Int32} {vz : Int32} {vw : Int32} {vh : Int32} {pxc : Nat → Int32} {mdc : Nat → Int32} {vzc : Int32} {vwc : Int32} {vhc : Int32} {vkc : Int32} {pxr : Nat → Int32} {mdr : Nat → Int32} {vzr : Int32} {vwr : Int32} {vhr : Int32} {vkr : Int32} {yt : Nat → Int32} {yl : Nat} {ibc : Int32} {ilc : Int32} {igl : Int32} {ibk : Int32} {ifa : Int32} {ibd : Int32} {wd : Nat → Int32} {hg : Nat → Int32} {pix : Nat → Int32} {str : Nat → Int32} {mds : Nat → Int32} {thr : Nat → Int32} {isz : Int32} {ibl : Int32} {ile : Int32} {igr : Int32} {mbk : Int32} {ist : Int32} {ibr : Int32} {fou : Nat → Int64} {i1 : Int32} {i2 : Int32} {fouN : Nat → Int64} {ithN : Int32} {k : Int32} {bb : Int32} (hI : INV px vz vw vh pxc mdc vzc vwc vhc vkc pxr mdr vzr vwr vhr vkr yt yl ibc ilc igl ibk ifa ibd wd hg pix str mds thr isz ibl ile igr mbk ist ibr) (h1 : rx_mode vkc mdc vkr mdr fou i1 i2 fouN k) (h2 : rm_mode mbk wd hg mds thr i1 i2 ithN bb) : ithN = k ∧ (k = 0 → fouN 0 = Int32.toInt64 bb) ∧ INV px vz vw vh pxc mdc vzc vwc vhc vkc pxr mdr vzr vwr vhr vkr yt yl ibc ilc igl ibk ifa ibd wd hg pix str mds thr isz ibl ile igr mbk ist ibr := by
  have hI0 := hI
  obtain ⟨⟨z0, t0, ⟨cw0, ch0, hcw0, hch0, ew, eh, mw, mh⟩, hpx⟩, A1, A2, B1, B2, ⟨es, hyl, hyt⟩, ⟨q1, q2, q3, q4, q5⟩, hPX⟩ := hI0
  obtain ⟨nr, hr1, hr2, hr3, hr4, hr5⟩ := B2
  obtain ⟨nc, hc1, hc2, hc3, hc4⟩ := B1
  unfold rx_mode at h1
  unfold rm_mode at h2
  rcases h1 with ⟨kn, k, e0, e1, e2, a0, a1, rfl, rfl⟩ | ⟨kn, k, e0, e1, e2, a0, a1, rfl, rfl⟩ | ⟨e0, a0, rfl, u0⟩ | ⟨e0, a0, rfl, u0⟩
  · skip
    have pR : i1 = 1 := e0
    have pK : ∃ k : Nat, k < nr ∧ i2 = nI k := ⟨k, by have w := nI_inj (e2.symm.trans hr2) (by omega) (by omega); omega, e1⟩
    rcases h2 with ⟨nbk2, k2, g0, g1, g2, b0, b1, rfl, rfl⟩ | ⟨nbk2, g0, g1, b0, rfl, rfl⟩ | ⟨k2, cw2, ch2, g0, g1, b0, b1, b2, b3, b4, b5, rfl, rfl⟩ | ⟨cw2, ch2, g0, b0, b1, b2, b3, b4, b5, rfl, rfl⟩ | ⟨g0, b0, rfl, rfl⟩
    · skip
      have pR2 : i1 = 1 := g0
      have pK2 : ∃ k : Nat, k < nr ∧ i2 = nI k := ⟨k2, by have w := nI_inj (g2.symm.trans hr4) (by omega) (by omega); omega, g1⟩
      have w1 := nI_inj (e1.symm.trans g1) (by omega) (by omega)
      subst w1
      exact ⟨rfl, fun _ => by rw [updL0, hr5 _ (by have w := nI_inj (e2.symm.trans hr2) (by omega) (by omega); omega)], hI⟩
    · skip
      have pR2 : i1 = 1 := g0
      have nK2 : ¬ (∃ k : Nat, k < nr ∧ i2 = nI k) := fun ⟨k, h1, h2⟩ => b0 (by rw [h2, ← g1, hr4]; exact cs_inN h1 (by omega))
      first | exact absurd pS nS2 | exact absurd pS2 nS | exact absurd pV nV2 | exact absurd pV2 nV | exact absurd pI nI2 | exact absurd pI2 nI | exact absurd pK nK2 | exact absurd pK2 nK | exact absurd pT nT2 | exact absurd pT2 nT | exact absurd pL nL2 | exact absurd pL2 nL | exact absurd pG nG2 | exact absurd pG2 nG | exact absurd pQ nQ2 | exact absurd pQ2 nQ | exact absurd pM nM2 | exact absurd pM2 nM | exact absurd pR nR2 | exact absurd pR2 nR | exact absurd pZ nZ2 | exact absurd pZ2 nZ | exact absurd (pR.symm.trans pZ2) (by decide) | exact absurd (pZ.symm.trans pR2) (by decide)
    · skip
      have pZ2 : i1 = 0 := g0
      have pM2 : ∃ k : Nat, k < nc ∧ i2 = nI k := ⟨k2, by rcases hc4 with ⟨h, -⟩ | ⟨-, c1, c2, h1, h2, h3, h4, h5⟩; · exact absurd h b0
          have w1 := nI_inj (b1.symm.trans h3) (by omega) (by omega); have w2 := nI_inj (b2.symm.trans h4) (by omega) (by omega); rw [h5, ← show cw2 = c1 by omega, ← show ch2 = c2 by omega]; exact b5, g1⟩
      first | exact absurd pS nS2 | exact absurd pS2 nS | exact absurd pV nV2 | exact absurd pV2 nV | exact absurd pI nI2 | exact absurd pI2 nI | exact absurd pK nK2 | exact absurd pK2 nK | exact absurd pT nT2 | exact absurd pT2 nT | exact absurd pL nL2 | exact absurd pL2 nL | exact absurd pG nG2 | exact absurd pG2 nG | exact absurd pQ nQ2 | exact absurd pQ2 nQ | exact absurd pM nM2 | exact absurd pM2 nM | exact absurd pR nR2 | exact absurd pR2 nR | exact absurd pZ nZ2 | exact absurd pZ2 nZ | exact absurd (pR.symm.trans pZ2) (by decide) | exact absurd (pZ.symm.trans pR2) (by decide)
    · skip
      have pZ2 : i1 = 0 := g0
      have nM2 : ¬ (∃ k : Nat, k < nc ∧ i2 = nI k) := fun ⟨k, q8, q9⟩ => by rcases hc4 with ⟨h, -⟩ | ⟨-, c1, c2, h1, h2, h3, h4, h5⟩; · exact b0 h
          have w1 := nI_inj (b1.symm.trans h3) (by omega) (by omega); have w2 := nI_inj (b2.symm.trans h4) (by omega) (by omega); have w3 : cw2 * ch2 = nc := by rw [h5, show cw2 = c1 by omega, show ch2 = c2 by omega]
          exact b5 (by rw [q9, w3]; exact cs_inN q8 (by omega))
      first | exact absurd pS nS2 | exact absurd pS2 nS | exact absurd pV nV2 | exact absurd pV2 nV | exact absurd pI nI2 | exact absurd pI2 nI | exact absurd pK nK2 | exact absurd pK2 nK | exact absurd pT nT2 | exact absurd pT2 nT | exact absurd pL nL2 | exact absurd pL2 nL | exact absurd pG nG2 | exact absurd pG2 nG | exact absurd pQ nQ2 | exact absurd pQ2 nQ | exact absurd pM nM2 | exact absurd pM2 nM | exact absurd pR nR2 | exact absurd pR2 nR | exact absurd pZ nZ2 | exact absurd pZ2 nZ | exact absurd (pR.symm.trans pZ2) (by decide) | exact absurd (pZ.symm.trans pR2) (by decide)
    · skip
      have pZ2 : i1 = 0 := g0
      have nM2 : ¬ (∃ k : Nat, k < nc ∧ i2 = nI k) := fun ⟨k, q8, q9⟩ => by rcases hc4 with ⟨-, h⟩ | ⟨h, -⟩; · omega
          exact h b0
      first | exact absurd pS nS2 | exact absurd pS2 nS | exact absurd pV nV2 | exact absurd pV2 nV | exact absurd pI nI2 | exact absurd pI2 nI | exact absurd pK nK2 | exact absurd pK2 nK | exact absurd pT nT2 | exact absurd pT2 nT | exact absurd pL nL2 | exact absurd pL2 nL | exact absurd pG nG2 | exact absurd pG2 nG | exact absurd pQ nQ2 | exact absurd pQ2 nQ | exact absurd pM nM2 | exact absurd pM2 nM | exact absurd pR nR2 | exact absurd pR2 nR | exact absurd pZ nZ2 | exact absurd pZ2 nZ | exact absurd (pR.symm.trans pZ2) (by decide) | exact absurd (pZ.symm.trans pR2) (by decide)
  · skip
    have pZ : i1 = 0 := e0
    have pM : ∃ k : Nat, k < nc ∧ i2 = nI k := ⟨k, by have w := nI_inj (e2.symm.trans hc2) (by omega) (by omega); omega, e1⟩
    rcases h2 with ⟨nbk2, k2, g0, g1, g2, b0, b1, rfl, rfl⟩ | ⟨nbk2, g0, g1, b0, rfl, rfl⟩ | ⟨k2, cw2, ch2, g0, g1, b0, b1, b2, b3, b4, b5, rfl, rfl⟩ | ⟨cw2, ch2, g0, b0, b1, b2, b3, b4, b5, rfl, rfl⟩ | ⟨g0, b0, rfl, rfl⟩
    · skip
      have pR2 : i1 = 1 := g0
      have pK2 : ∃ k : Nat, k < nr ∧ i2 = nI k := ⟨k2, by have w := nI_inj (g2.symm.trans hr4) (by omega) (by omega); omega, g1⟩
      first | exact absurd pS nS2 | exact absurd pS2 nS | exact absurd pV nV2 | exact absurd pV2 nV | exact absurd pI nI2 | exact absurd pI2 nI | exact absurd pK nK2 | exact absurd pK2 nK | exact absurd pT nT2 | exact absurd pT2 nT | exact absurd pL nL2 | exact absurd pL2 nL | exact absurd pG nG2 | exact absurd pG2 nG | exact absurd pQ nQ2 | exact absurd pQ2 nQ | exact absurd pM nM2 | exact absurd pM2 nM | exact absurd pR nR2 | exact absurd pR2 nR | exact absurd pZ nZ2 | exact absurd pZ2 nZ | exact absurd (pR.symm.trans pZ2) (by decide) | exact absurd (pZ.symm.trans pR2) (by decide)
    · skip
      have pR2 : i1 = 1 := g0
      have nK2 : ¬ (∃ k : Nat, k < nr ∧ i2 = nI k) := fun ⟨k, h1, h2⟩ => b0 (by rw [h2, ← g1, hr4]; exact cs_inN h1 (by omega))
      first | exact absurd pS nS2 | exact absurd pS2 nS | exact absurd pV nV2 | exact absurd pV2 nV | exact absurd pI nI2 | exact absurd pI2 nI | exact absurd pK nK2 | exact absurd pK2 nK | exact absurd pT nT2 | exact absurd pT2 nT | exact absurd pL nL2 | exact absurd pL2 nL | exact absurd pG nG2 | exact absurd pG2 nG | exact absurd pQ nQ2 | exact absurd pQ2 nQ | exact absurd pM nM2 | exact absurd pM2 nM | exact absurd pR nR2 | exact absurd pR2 nR | exact absurd pZ nZ2 | exact absurd pZ2 nZ | exact absurd (pR.symm.trans pZ2) (by decide) | exact absurd (pZ.symm.trans pR2) (by decide)
    · skip
      have pZ2 : i1 = 0 := g0
      have pM2 : ∃ k : Nat, k < nc ∧ i2 = nI k := ⟨k2, by rcases hc4 with ⟨h, -⟩ | ⟨-, c1, c2, h1, h2, h3, h4, h5⟩; · exact absurd h b0
          have w1 := nI_inj (b1.symm.trans h3) (by omega) (by omega); have w2 := nI_inj (b2.symm.trans h4) (by omega) (by omega); rw [h5, ← show cw2 = c1 by omega, ← show ch2 = c2 by omega]; exact b5, g1⟩
      have w1 := nI_inj (e1.symm.trans g1) (by omega) (by omega)
      subst w1
      exact ⟨rfl, fun _ => by rw [updL0, hc3 _ (by have w := nI_inj (e2.symm.trans hc2) (by omega) (by omega); omega)], hI⟩
    · skip
      have pZ2 : i1 = 0 := g0
      have nM2 : ¬ (∃ k : Nat, k < nc ∧ i2 = nI k) := fun ⟨k, q8, q9⟩ => by rcases hc4 with ⟨h, -⟩ | ⟨-, c1, c2, h1, h2, h3, h4, h5⟩; · exact b0 h
          have w1 := nI_inj (b1.symm.trans h3) (by omega) (by omega); have w2 := nI_inj (b2.symm.trans h4) (by omega) (by omega); have w3 : cw2 * ch2 = nc := by rw [h5, show cw2 = c1 by omega, show ch2 = c2 by omega]
          exact b5 (by rw [q9, w3]; exact cs_inN q8 (by omega))
      first | exact absurd pS nS2 | exact absurd pS2 nS | exact absurd pV nV2 | exact absurd pV2 nV | exact absurd pI nI2 | exact absurd pI2 nI | exact absurd pK nK2 | exact absurd pK2 nK | exact absurd pT nT2 | exact absurd pT2 nT | exact absurd pL nL2 | exact absurd pL2 nL | exact absurd pG nG2 | exact absurd pG2 nG | exact absurd pQ nQ2 | exact absurd pQ2 nQ | exact absurd pM nM2 | exact absurd pM2 nM | exact absurd pR nR2 | exact absurd pR2 nR | exact absurd pZ nZ2 | exact absurd pZ2 nZ | exact absurd (pR.symm.trans pZ2) (by decide) | exact absurd (pZ.symm.trans pR2) (by decide)
    · skip
      have pZ2 : i1 = 0 := g0
      have nM2 : ¬ (∃ k : Nat, k < nc ∧ i2 = nI k) := fun ⟨k, q8, q9⟩ => by rcases hc4 with ⟨-, h⟩ | ⟨h, -⟩; · omega
          exact h b0
      first | exact absurd pS nS2 | exact absurd pS2 nS | exact absurd pV nV2 | exact absurd pV2 nV | exact absurd pI nI2 | exact absurd pI2 nI | exact absurd pK nK2 | exact absurd pK2 nK | exact absurd pT nT2 | exact absurd pT2 nT | exact absurd pL nL2 | exact absurd pL2 nL | exact absurd pG nG2 | exact absurd pG2 nG | exact absurd pQ nQ2 | exact absurd pQ2 nQ | exact absurd pM nM2 | exact absurd pM2 nM | exact absurd pR nR2 | exact absurd pR2 nR | exact absurd pZ nZ2 | exact absurd pZ2 nZ | exact absurd (pR.symm.trans pZ2) (by decide) | exact absurd (pZ.symm.trans pR2) (by decide)
  · skip
    replace u0 := u0.symm
    subst u0
    have pR : i1 = 1 := e0
    have nK : ¬ (∃ k : Nat, k < nr ∧ i2 = nI k) := fun ⟨k, h1, h2⟩ => a0 (by rw [h2, hr2]; exact ⟨nI_pos (by omega), nI_ge h1 (by omega), nI_ge (b := 9) (by omega) (by decide)⟩)
    rcases h2 with ⟨nbk2, k2, g0, g1, g2, b0, b1, rfl, rfl⟩ | ⟨nbk2, g0, g1, b0, rfl, rfl⟩ | ⟨k2, cw2, ch2, g0, g1, b0, b1, b2, b3, b4, b5, rfl, rfl⟩ | ⟨cw2, ch2, g0, b0, b1, b2, b3, b4, b5, rfl, rfl⟩ | ⟨g0, b0, rfl, rfl⟩
    · skip
      have pR2 : i1 = 1 := g0
      have pK2 : ∃ k : Nat, k < nr ∧ i2 = nI k := ⟨k2, by have w := nI_inj (g2.symm.trans hr4) (by omega) (by omega); omega, g1⟩
      first | exact absurd pS nS2 | exact absurd pS2 nS | exact absurd pV nV2 | exact absurd pV2 nV | exact absurd pI nI2 | exact absurd pI2 nI | exact absurd pK nK2 | exact absurd pK2 nK | exact absurd pT nT2 | exact absurd pT2 nT | exact absurd pL nL2 | exact absurd pL2 nL | exact absurd pG nG2 | exact absurd pG2 nG | exact absurd pQ nQ2 | exact absurd pQ2 nQ | exact absurd pM nM2 | exact absurd pM2 nM | exact absurd pR nR2 | exact absurd pR2 nR | exact absurd pZ nZ2 | exact absurd pZ2 nZ | exact absurd (pR.symm.trans pZ2) (by decide) | exact absurd (pZ.symm.trans pR2) (by decide)
    · skip
      have pR2 : i1 = 1 := g0
      have nK2 : ¬ (∃ k : Nat, k < nr ∧ i2 = nI k) := fun ⟨k, h1, h2⟩ => b0 (by rw [h2, ← g1, hr4]; exact cs_inN h1 (by omega))
      exact ⟨rfl, fun h => absurd h (by decide), hI⟩
    · skip
      have pZ2 : i1 = 0 := g0
      have pM2 : ∃ k : Nat, k < nc ∧ i2 = nI k := ⟨k2, by rcases hc4 with ⟨h, -⟩ | ⟨-, c1, c2, h1, h2, h3, h4, h5⟩; · exact absurd h b0
          have w1 := nI_inj (b1.symm.trans h3) (by omega) (by omega); have w2 := nI_inj (b2.symm.trans h4) (by omega) (by omega); rw [h5, ← show cw2 = c1 by omega, ← show ch2 = c2 by omega]; exact b5, g1⟩
      first | exact absurd pS nS2 | exact absurd pS2 nS | exact absurd pV nV2 | exact absurd pV2 nV | exact absurd pI nI2 | exact absurd pI2 nI | exact absurd pK nK2 | exact absurd pK2 nK | exact absurd pT nT2 | exact absurd pT2 nT | exact absurd pL nL2 | exact absurd pL2 nL | exact absurd pG nG2 | exact absurd pG2 nG | exact absurd pQ nQ2 | exact absurd pQ2 nQ | exact absurd pM nM2 | exact absurd pM2 nM | exact absurd pR nR2 | exact absurd pR2 nR | exact absurd pZ nZ2 | exact absurd pZ2 nZ | exact absurd (pR.symm.trans pZ2) (by decide) | exact absurd (pZ.symm.trans pR2) (by decide)
    · skip
      have pZ2 : i1 = 0 := g0
      have nM2 : ¬ (∃ k : Nat, k < nc ∧ i2 = nI k) := fun ⟨k, q8, q9⟩ => by rcases hc4 with ⟨h, -⟩ | ⟨-, c1, c2, h1, h2, h3, h4, h5⟩; · exact b0 h
          have w1 := nI_inj (b1.symm.trans h3) (by omega) (by omega); have w2 := nI_inj (b2.symm.trans h4) (by omega) (by omega); have w3 : cw2 * ch2 = nc := by rw [h5, show cw2 = c1 by omega, show ch2 = c2 by omega]
          exact b5 (by rw [q9, w3]; exact cs_inN q8 (by omega))
      first | exact absurd pS nS2 | exact absurd pS2 nS | exact absurd pV nV2 | exact absurd pV2 nV | exact absurd pI nI2 | exact absurd pI2 nI | exact absurd pK nK2 | exact absurd pK2 nK | exact absurd pT nT2 | exact absurd pT2 nT | exact absurd pL nL2 | exact absurd pL2 nL | exact absurd pG nG2 | exact absurd pG2 nG | exact absurd pQ nQ2 | exact absurd pQ2 nQ | exact absurd pM nM2 | exact absurd pM2 nM | exact absurd pR nR2 | exact absurd pR2 nR | exact absurd pZ nZ2 | exact absurd pZ2 nZ | exact absurd (pR.symm.trans pZ2) (by decide) | exact absurd (pZ.symm.trans pR2) (by decide)
    · skip
      have pZ2 : i1 = 0 := g0
      have nM2 : ¬ (∃ k : Nat, k < nc ∧ i2 = nI k) := fun ⟨k, q8, q9⟩ => by rcases hc4 with ⟨-, h⟩ | ⟨h, -⟩; · omega
          exact h b0
      first | exact absurd pS nS2 | exact absurd pS2 nS | exact absurd pV nV2 | exact absurd pV2 nV | exact absurd pI nI2 | exact absurd pI2 nI | exact absurd pK nK2 | exact absurd pK2 nK | exact absurd pT nT2 | exact absurd pT2 nT | exact absurd pL nL2 | exact absurd pL2 nL | exact absurd pG nG2 | exact absurd pG2 nG | exact absurd pQ nQ2 | exact absurd pQ2 nQ | exact absurd pM nM2 | exact absurd pM2 nM | exact absurd pR nR2 | exact absurd pR2 nR | exact absurd pZ nZ2 | exact absurd pZ2 nZ | exact absurd (pR.symm.trans pZ2) (by decide) | exact absurd (pZ.symm.trans pR2) (by decide)
  · skip
    replace u0 := u0.symm
    subst u0
    have pZ : i1 = 0 := e0
    have nM : ¬ (∃ k : Nat, k < nc ∧ i2 = nI k) := fun ⟨k, h1, h2⟩ => a0 (by rw [h2, hc2]; exact ⟨nI_pos (by omega), nI_ge h1 (by omega), nI_ge (b := 9) (by omega) (by decide)⟩)
    rcases h2 with ⟨nbk2, k2, g0, g1, g2, b0, b1, rfl, rfl⟩ | ⟨nbk2, g0, g1, b0, rfl, rfl⟩ | ⟨k2, cw2, ch2, g0, g1, b0, b1, b2, b3, b4, b5, rfl, rfl⟩ | ⟨cw2, ch2, g0, b0, b1, b2, b3, b4, b5, rfl, rfl⟩ | ⟨g0, b0, rfl, rfl⟩
    · skip
      have pR2 : i1 = 1 := g0
      have pK2 : ∃ k : Nat, k < nr ∧ i2 = nI k := ⟨k2, by have w := nI_inj (g2.symm.trans hr4) (by omega) (by omega); omega, g1⟩
      first | exact absurd pS nS2 | exact absurd pS2 nS | exact absurd pV nV2 | exact absurd pV2 nV | exact absurd pI nI2 | exact absurd pI2 nI | exact absurd pK nK2 | exact absurd pK2 nK | exact absurd pT nT2 | exact absurd pT2 nT | exact absurd pL nL2 | exact absurd pL2 nL | exact absurd pG nG2 | exact absurd pG2 nG | exact absurd pQ nQ2 | exact absurd pQ2 nQ | exact absurd pM nM2 | exact absurd pM2 nM | exact absurd pR nR2 | exact absurd pR2 nR | exact absurd pZ nZ2 | exact absurd pZ2 nZ | exact absurd (pR.symm.trans pZ2) (by decide) | exact absurd (pZ.symm.trans pR2) (by decide)
    · skip
      have pR2 : i1 = 1 := g0
      have nK2 : ¬ (∃ k : Nat, k < nr ∧ i2 = nI k) := fun ⟨k, h1, h2⟩ => b0 (by rw [h2, ← g1, hr4]; exact cs_inN h1 (by omega))
      first | exact absurd pS nS2 | exact absurd pS2 nS | exact absurd pV nV2 | exact absurd pV2 nV | exact absurd pI nI2 | exact absurd pI2 nI | exact absurd pK nK2 | exact absurd pK2 nK | exact absurd pT nT2 | exact absurd pT2 nT | exact absurd pL nL2 | exact absurd pL2 nL | exact absurd pG nG2 | exact absurd pG2 nG | exact absurd pQ nQ2 | exact absurd pQ2 nQ | exact absurd pM nM2 | exact absurd pM2 nM | exact absurd pR nR2 | exact absurd pR2 nR | exact absurd pZ nZ2 | exact absurd pZ2 nZ | exact absurd (pR.symm.trans pZ2) (by decide) | exact absurd (pZ.symm.trans pR2) (by decide)
    · skip
      have pZ2 : i1 = 0 := g0
      have pM2 : ∃ k : Nat, k < nc ∧ i2 = nI k := ⟨k2, by rcases hc4 with ⟨h, -⟩ | ⟨-, c1, c2, h1, h2, h3, h4, h5⟩; · exact absurd h b0
          have w1 := nI_inj (b1.symm.trans h3) (by omega) (by omega); have w2 := nI_inj (b2.symm.trans h4) (by omega) (by omega); rw [h5, ← show cw2 = c1 by omega, ← show ch2 = c2 by omega]; exact b5, g1⟩
      first | exact absurd pS nS2 | exact absurd pS2 nS | exact absurd pV nV2 | exact absurd pV2 nV | exact absurd pI nI2 | exact absurd pI2 nI | exact absurd pK nK2 | exact absurd pK2 nK | exact absurd pT nT2 | exact absurd pT2 nT | exact absurd pL nL2 | exact absurd pL2 nL | exact absurd pG nG2 | exact absurd pG2 nG | exact absurd pQ nQ2 | exact absurd pQ2 nQ | exact absurd pM nM2 | exact absurd pM2 nM | exact absurd pR nR2 | exact absurd pR2 nR | exact absurd pZ nZ2 | exact absurd pZ2 nZ | exact absurd (pR.symm.trans pZ2) (by decide) | exact absurd (pZ.symm.trans pR2) (by decide)
    · skip
      have pZ2 : i1 = 0 := g0
      have nM2 : ¬ (∃ k : Nat, k < nc ∧ i2 = nI k) := fun ⟨k, q8, q9⟩ => by rcases hc4 with ⟨h, -⟩ | ⟨-, c1, c2, h1, h2, h3, h4, h5⟩; · exact b0 h
          have w1 := nI_inj (b1.symm.trans h3) (by omega) (by omega); have w2 := nI_inj (b2.symm.trans h4) (by omega) (by omega); have w3 : cw2 * ch2 = nc := by rw [h5, show cw2 = c1 by omega, show ch2 = c2 by omega]
          exact b5 (by rw [q9, w3]; exact cs_inN q8 (by omega))
      exact ⟨rfl, fun h => absurd h (by decide), hI⟩
    · skip
      have pZ2 : i1 = 0 := g0
      have nM2 : ¬ (∃ k : Nat, k < nc ∧ i2 = nI k) := fun ⟨k, q8, q9⟩ => by rcases hc4 with ⟨-, h⟩ | ⟨h, -⟩; · omega
          exact h b0
      exact ⟨rfl, fun h => absurd h (by decide), hI⟩
