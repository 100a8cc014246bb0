set_option maxHeartbeats 2000000 in
theorem p_stream {px : Nat → Int32} {vz : Int32} {vw : Int32} {vh : Int32} {pxc : Nat → Int32} {mdc : Nat → Int32} {vzc : Int32} {vwc : Int32} {vhc : Int32} {vkc : Int32} {pxr : Nat → Int32} {mdr : Nat → Int32} {vzr : Int32} {vwr : Int32} {vhr : Int32} {vkr : Int32} {yt : Nat → Int32} {yl : Nat} {ibc : Int32} {ilc : Int32} {igl : Int32} {ibk : Int32} {ifa : Int32} {ibd : Int32} {wd : Nat → Int32} {hg : Nat → Int32} {pix : Nat → Int32} {str : Nat → Int32} {mds : Nat → Int32} {thr : Nat → Int32} {isz : Int32} {ibl : Int32} {ile : Int32} {igr : Int32} {mbk : Int32} {ist : Int32} {ibr : Int32} {fou : Nat → Int64} {i1 : Int32} {fouN : Nat → Int64} {ithN : Int32} {k : Int32} {bb : Int32} (hI : INV px vz vw vh pxc mdc vzc vwc vhc vkc pxr mdr vzr vwr vhr vkr yt yl ibc ilc igl ibk ifa ibd wd hg pix str mds thr isz ibl ile igr mbk ist ibr) (h1 : rx_stream yl yt fou i1 fouN k) (h2 : rm_stream isz str i1 ithN bb) : ithN = k ∧ (k = 0 → fouN 0 = Int32.toInt64 bb) ∧ INV px vz vw vh pxc mdc vzc vwc vhc vkc pxr mdr vzr vwr vhr vkr yt yl ibc ilc igl ibk ifa ibd wd hg pix str mds thr isz ibl ile igr mbk ist ibr := by
  have hI0 := hI
  obtain ⟨⟨z0, t0, ⟨cw0, ch0, hcw0, hch0, ew, eh, mw, mh⟩, hpx⟩, A1, A2, B1, B2, ⟨es, hyl, hyt⟩, ⟨q1, q2, q3, q4, q5⟩, hPX⟩ := hI0
  unfold rx_stream at h1
  unfold rm_stream at h2
  rcases h1 with ⟨e0, rfl, rfl⟩ | ⟨k, e0, a0, a1, rfl, rfl⟩ | ⟨a0, a1, rfl, u0⟩
  · skip
    have ppL : i1 = (-1) := e0
    rcases h2 with ⟨ns2, k2, g0, g1, b0, b1, rfl, rfl⟩ | ⟨ns2, g0, g1, b0, rfl, rfl⟩ | ⟨ns2, g0, b0, rfl, rfl⟩
    · skip
      have ppK2 : ∃ k : Nat, k < yl ∧ i1 = nI k := ⟨k2, by have w := nI_inj (g1.symm.trans es) (by omega) (by omega); omega, g0⟩
      have nnL2 : ¬ (i1 = (-1)) := by rw [g0]; exact cs_nm1 (by omega)
      first | exact absurd ppS nnS2 | exact absurd ppS2 nnS | exact absurd ppV nnV2 | exact absurd ppV2 nnV | exact absurd ppI nnI2 | exact absurd ppI2 nnI | exact absurd ppK nnK2 | exact absurd ppK2 nnK | exact absurd ppT nnT2 | exact absurd ppT2 nnT | exact absurd ppL nnL2 | exact absurd ppL2 nnL | exact absurd ppG nnG2 | exact absurd ppG2 nnG | exact absurd ppQ nnQ2 | exact absurd ppQ2 nnQ | exact absurd ppM nnM2 | exact absurd ppM2 nnM | exact absurd ppR nnR2 | exact absurd ppR2 nnR | exact absurd ppZ nnZ2 | exact absurd ppZ2 nnZ | exact absurd (ppR.symm.trans ppZ2) (by decide) | exact absurd (ppZ.symm.trans ppR2) (by decide)
    · skip
      have ppL2 : i1 = (-1) := g0
      exact ⟨rfl, fun _ => by rw [updL0, ← g1, es], hI⟩
    · skip
      have nnL2 : ¬ (i1 = (-1)) := fun h => b0 (by rw [h, ← g0, es]; exact ⟨by decide, cs_ns1 hyl⟩)
      have nnK2 : ¬ (∃ k : Nat, k < yl ∧ i1 = nI k) := fun ⟨k, h1, h2⟩ => b0 (by rw [h2, ← g0, es]; exact ⟨cs_m1 (by omega), (cs_inN h1 (by omega)).2⟩)
      first | exact absurd ppS nnS2 | exact absurd ppS2 nnS | exact absurd ppV nnV2 | exact absurd ppV2 nnV | exact absurd ppI nnI2 | exact absurd ppI2 nnI | exact absurd ppK nnK2 | exact absurd ppK2 nnK | exact absurd ppT nnT2 | exact absurd ppT2 nnT | exact absurd ppL nnL2 | exact absurd ppL2 nnL | exact absurd ppG nnG2 | exact absurd ppG2 nnG | exact absurd ppQ nnQ2 | exact absurd ppQ2 nnQ | exact absurd ppM nnM2 | exact absurd ppM2 nnM | exact absurd ppR nnR2 | exact absurd ppR2 nnR | exact absurd ppZ nnZ2 | exact absurd ppZ2 nnZ | exact absurd (ppR.symm.trans ppZ2) (by decide) | exact absurd (ppZ.symm.trans ppR2) (by decide)
  · skip
    have ppK : ∃ k : Nat, k < yl ∧ i1 = nI k := ⟨k, a1, e0⟩
    have nnL : ¬ (i1 = (-1)) := by rw [e0]; exact cs_nm1 (by omega)
    rcases h2 with ⟨ns2, k2, g0, g1, b0, b1, rfl, rfl⟩ | ⟨ns2, g0, g1, b0, rfl, rfl⟩ | ⟨ns2, g0, b0, rfl, rfl⟩
    · skip
      have ppK2 : ∃ k : Nat, k < yl ∧ i1 = nI k := ⟨k2, by have w := nI_inj (g1.symm.trans es) (by omega) (by omega); omega, g0⟩
      have nnL2 : ¬ (i1 = (-1)) := by rw [g0]; exact cs_nm1 (by omega)
      have w1 := nI_inj (e0.symm.trans g0) (by omega) (by omega)
      subst w1
      exact ⟨rfl, fun _ => by rw [updL0, (hyt _ a1).1], hI⟩
    · skip
      have ppL2 : i1 = (-1) := g0
      first | exact absurd ppS nnS2 | exact absurd ppS2 nnS | exact absurd ppV nnV2 | exact absurd ppV2 nnV | exact absurd ppI nnI2 | exact absurd ppI2 nnI | exact absurd ppK nnK2 | exact absurd ppK2 nnK | exact absurd ppT nnT2 | exact absurd ppT2 nnT | exact absurd ppL nnL2 | exact absurd ppL2 nnL | exact absurd ppG nnG2 | exact absurd ppG2 nnG | exact absurd ppQ nnQ2 | exact absurd ppQ2 nnQ | exact absurd ppM nnM2 | exact absurd ppM2 nnM | exact absurd ppR nnR2 | exact absurd ppR2 nnR | exact absurd ppZ nnZ2 | exact absurd ppZ2 nnZ | exact absurd (ppR.symm.trans ppZ2) (by decide) | exact absurd (ppZ.symm.trans ppR2) (by decide)
    · skip
      have nnL2 : ¬ (i1 = (-1)) := fun h => b0 (by rw [h, ← g0, es]; exact ⟨by decide, cs_ns1 hyl⟩)
      have nnK2 : ¬ (∃ k : Nat, k < yl ∧ i1 = nI k) := fun ⟨k, h1, h2⟩ => b0 (by rw [h2, ← g0, es]; exact ⟨cs_m1 (by omega), (cs_inN h1 (by omega)).2⟩)
      first | exact absurd ppS nnS2 | exact absurd ppS2 nnS | exact absurd ppV nnV2 | exact absurd ppV2 nnV | exact absurd ppI nnI2 | exact absurd ppI2 nnI | exact absurd ppK nnK2 | exact absurd ppK2 nnK | exact absurd ppT nnT2 | exact absurd ppT2 nnT | exact absurd ppL nnL2 | exact absurd ppL2 nnL | exact absurd ppG nnG2 | exact absurd ppG2 nnG | exact absurd ppQ nnQ2 | exact absurd ppQ2 nnQ | exact absurd ppM nnM2 | exact absurd ppM2 nnM | exact absurd ppR nnR2 | exact absurd ppR2 nnR | exact absurd ppZ nnZ2 | exact absurd ppZ2 nnZ | exact absurd (ppR.symm.trans ppZ2) (by decide) | exact absurd (ppZ.symm.trans ppR2) (by decide)
  · skip
    replace u0 := u0.symm
    subst u0
    have nnL : ¬ (i1 = (-1)) := a0
    have nnK : ¬ (∃ k : Nat, k < yl ∧ i1 = nI k) := fun ⟨k, h1, h2⟩ => a1 (by rw [h2]; exact ⟨nI_pos (by omega), nI_ge h1 (by omega), nI_ge (b := 400) (by omega) (by decide)⟩)
    rcases h2 with ⟨ns2, k2, g0, g1, b0, b1, rfl, rfl⟩ | ⟨ns2, g0, g1, b0, rfl, rfl⟩ | ⟨ns2, g0, b0, rfl, rfl⟩
    · skip
      have ppK2 : ∃ k : Nat, k < yl ∧ i1 = nI k := ⟨k2, by have w := nI_inj (g1.symm.trans es) (by omega) (by omega); omega, g0⟩
      have nnL2 : ¬ (i1 = (-1)) := by rw [g0]; exact cs_nm1 (by omega)
      first | exact absurd ppS nnS2 | exact absurd ppS2 nnS | exact absurd ppV nnV2 | exact absurd ppV2 nnV | exact absurd ppI nnI2 | exact absurd ppI2 nnI | exact absurd ppK nnK2 | exact absurd ppK2 nnK | exact absurd ppT nnT2 | exact absurd ppT2 nnT | exact absurd ppL nnL2 | exact absurd ppL2 nnL | exact absurd ppG nnG2 | exact absurd ppG2 nnG | exact absurd ppQ nnQ2 | exact absurd ppQ2 nnQ | exact absurd ppM nnM2 | exact absurd ppM2 nnM | exact absurd ppR nnR2 | exact absurd ppR2 nnR | exact absurd ppZ nnZ2 | exact absurd ppZ2 nnZ | exact absurd (ppR.symm.trans ppZ2) (by decide) | exact absurd (ppZ.symm.trans ppR2) (by decide)
    · skip
      have ppL2 : i1 = (-1) := g0
      first | exact absurd ppS nnS2 | exact absurd ppS2 nnS | exact absurd ppV nnV2 | exact absurd ppV2 nnV | exact absurd ppI nnI2 | exact absurd ppI2 nnI | exact absurd ppK nnK2 | exact absurd ppK2 nnK | exact absurd ppT nnT2 | exact absurd ppT2 nnT | exact absurd ppL nnL2 | exact absurd ppL2 nnL | exact absurd ppG nnG2 | exact absurd ppG2 nnG | exact absurd ppQ nnQ2 | exact absurd ppQ2 nnQ | exact absurd ppM nnM2 | exact absurd ppM2 nnM | exact absurd ppR nnR2 | exact absurd ppR2 nnR | exact absurd ppZ nnZ2 | exact absurd ppZ2 nnZ | exact absurd (ppR.symm.trans ppZ2) (by decide) | exact absurd (ppZ.symm.trans ppR2) (by decide)
    · skip
      have nnL2 : ¬ (i1 = (-1)) := fun h => b0 (by rw [h, ← g0, es]; exact ⟨by decide, cs_ns1 hyl⟩)
      have nnK2 : ¬ (∃ k : Nat, k < yl ∧ i1 = nI k) := fun ⟨k, h1, h2⟩ => b0 (by rw [h2, ← g0, es]; exact ⟨cs_m1 (by omega), (cs_inN h1 (by omega)).2⟩)
      exact ⟨rfl, fun h => absurd h (by decide), hI⟩
set_option maxHeartbeats 2000000 in
theorem p_damage {px : Nat → Int32} {vz : Int32} {vw : Int32} {vh : Int32} {pxc : Nat → Int32} {mdc : Nat → Int32} {vzc : Int32} {vwc : Int32} {vhc : Int32} {vkc : Int32} {pxr : Nat → Int32} {mdr : Nat → Int32} {vzr : Int32} {vwr : Int32} {vhr : Int32} {vkr : Int32} {yt : Nat → Int32} {yl : Nat} {ibc : Int32} {ilc : Int32} {igl : Int32} {ibk : Int32} {ifa : Int32} {ibd : Int32} {wd : Nat → Int32} {hg : Nat → Int32} {pix : Nat → Int32} {str : Nat → Int32} {mds : Nat → Int32} {thr : Nat → Int32} {isz : Int32} {ibl : Int32} {ile : Int32} {igr : Int32} {mbk : Int32} {ist : Int32} {ibr : Int32} {fou : Nat → Int64} {i1 : Int32} {i2 : Int32} {ylN : Nat} {ytN : Nat → Int32} {fouN : Nat → Int64} {iszN : Int32} {ithN : Int32} {strN : Nat → Int32} {k : Int32} {bb : Int32} (hI : INV px vz vw vh pxc mdc vzc vwc vhc vkc pxr mdr vzr vwr vhr vkr yt yl ibc ilc igl ibk ifa ibd wd hg pix str mds thr isz ibl ile igr mbk ist ibr) (h1 : rx_damage yl yt fou i1 i2 ylN ytN fouN k) (h2 : rm_damage isz str i1 i2 iszN ithN strN bb) : ithN = k ∧ (k = 0 → fouN 0 = Int32.toInt64 bb) ∧ INV px vz vw vh pxc mdc vzc vwc vhc vkc pxr mdr vzr vwr vhr vkr ytN ylN ibc ilc igl ibk ifa ibd wd hg pix strN mds thr iszN ibl ile igr mbk ist ibr := by
  have hI0 := hI
  obtain ⟨⟨z0, t0, ⟨cw0, ch0, hcw0, hch0, ew, eh, mw, mh⟩, hpx⟩, A1, A2, B1, B2, ⟨es, hyl, hyt⟩, ⟨q1, q2, q3, q4, q5⟩, hPX⟩ := hI0
  unfold rx_damage at h1
  unfold rm_damage at h2
  rcases h1 with ⟨k, e0, a0, a1, a2, rfl, u0, rfl, rfl⟩ | ⟨e0, a0, a1, rfl, rfl, rfl, rfl⟩ | ⟨a0, rfl, u0, u1, u2⟩ | ⟨a0, a1, rfl, u0, u1, u2⟩
  · skip
    replace u0 := u0.symm
    subst u0
    have ppV : ¬ i2 < 0 ∧ ¬ 255 < i2 := a1
    have ppK : ∃ k : Nat, k < yl ∧ i1 = nI k := ⟨k, a2, e0⟩
    rcases h2 with ⟨ns2, k2, g0, g1, b0, b1, b2, rfl, rfl, rfl, rfl⟩ | ⟨ns2, g0, g1, b0, b1, rfl, rfl, rfl, rfl⟩ | ⟨b0, rfl, v0, rfl, v2⟩ | ⟨ns2, g0, b0, b1, rfl, rfl, rfl, v2⟩
    · skip
      have ppV2 : ¬ i2 < 0 ∧ ¬ 255 < i2 := b1
      have ppK2 : ∃ k : Nat, k < yl ∧ i1 = nI k := ⟨k2, by have w := nI_inj (g1.symm.trans es) (by omega) (by omega); omega, g0⟩
      have w1 := nI_inj (e0.symm.trans g0) (by omega) (by omega)
      subst w1
      exact ⟨rfl, fun _ => by rw [updL0, (hyt _ a2).1], inv_byte a2 (sm_of a1) g1 hI⟩
    · skip
      have ppV2 : ¬ i2 < 0 ∧ ¬ 255 < i2 := b1
      have ppT2 : yl < 400 ∧ i1 = nI yl := ⟨by have w := nI_inj (g1.symm.trans es) (by omega) (by omega); omega, g0.trans (g1.symm.trans es)⟩
      have nnK2 : ¬ (∃ k : Nat, k < yl ∧ i1 = nI k) := fun ⟨k, h1, h2⟩ => by have w := nI_inj (g1.symm.trans es) (by omega) (by omega); have w2 := nI_inj (g0.symm.trans h2) (by omega) (by omega); omega
      first | exact absurd ppS nnS2 | exact absurd ppS2 nnS | exact absurd ppV nnV2 | exact absurd ppV2 nnV | exact absurd ppI nnI2 | exact absurd ppI2 nnI | exact absurd ppK nnK2 | exact absurd ppK2 nnK | exact absurd ppT nnT2 | exact absurd ppT2 nnT | exact absurd ppL nnL2 | exact absurd ppL2 nnL | exact absurd ppG nnG2 | exact absurd ppG2 nnG | exact absurd ppQ nnQ2 | exact absurd ppQ2 nnQ | exact absurd ppM nnM2 | exact absurd ppM2 nnM | exact absurd ppR nnR2 | exact absurd ppR2 nnR | exact absurd ppZ nnZ2 | exact absurd ppZ2 nnZ | exact absurd (ppR.symm.trans ppZ2) (by decide) | exact absurd (ppZ.symm.trans ppR2) (by decide)
    · skip
      replace v0 := v0.symm
      subst v0
      replace v2 := v2.symm
      subst v2
      have nnV2 : ¬ (¬ i2 < 0 ∧ ¬ 255 < i2) := b0
      first | exact absurd ppS nnS2 | exact absurd ppS2 nnS | exact absurd ppV nnV2 | exact absurd ppV2 nnV | exact absurd ppI nnI2 | exact absurd ppI2 nnI | exact absurd ppK nnK2 | exact absurd ppK2 nnK | exact absurd ppT nnT2 | exact absurd ppT2 nnT | exact absurd ppL nnL2 | exact absurd ppL2 nnL | exact absurd ppG nnG2 | exact absurd ppG2 nnG | exact absurd ppQ nnQ2 | exact absurd ppQ2 nnQ | exact absurd ppM nnM2 | exact absurd ppM2 nnM | exact absurd ppR nnR2 | exact absurd ppR2 nnR | exact absurd ppZ nnZ2 | exact absurd ppZ2 nnZ | exact absurd (ppR.symm.trans ppZ2) (by decide) | exact absurd (ppZ.symm.trans ppR2) (by decide)
    · skip
      replace v2 := v2.symm
      subst v2
      have ppV2 : ¬ i2 < 0 ∧ ¬ 255 < i2 := b0
      have nnK2 : ¬ (∃ k : Nat, k < yl ∧ i1 = nI k) := fun ⟨k, h1, h2⟩ => b1.elim (fun h => h (by rw [h2, ← g0, es]; exact cs_inL (by omega) (by omega))) (fun h => by have w := nI_inj (b := 400) (h2.symm.trans h) (by omega) (by decide); omega)
      have nnT2 : ¬ (yl < 400 ∧ i1 = nI yl) := fun ⟨h1, h2⟩ => b1.elim (fun h => h (by rw [h2, ← g0, es]; exact cs_inL (by omega) (by omega))) (fun h => by have w := nI_inj (b := 400) (h2.symm.trans h) (by omega) (by decide); omega)
      first | exact absurd ppS nnS2 | exact absurd ppS2 nnS | exact absurd ppV nnV2 | exact absurd ppV2 nnV | exact absurd ppI nnI2 | exact absurd ppI2 nnI | exact absurd ppK nnK2 | exact absurd ppK2 nnK | exact absurd ppT nnT2 | exact absurd ppT2 nnT | exact absurd ppL nnL2 | exact absurd ppL2 nnL | exact absurd ppG nnG2 | exact absurd ppG2 nnG | exact absurd ppQ nnQ2 | exact absurd ppQ2 nnQ | exact absurd ppM nnM2 | exact absurd ppM2 nnM | exact absurd ppR nnR2 | exact absurd ppR2 nnR | exact absurd ppZ nnZ2 | exact absurd ppZ2 nnZ | exact absurd (ppR.symm.trans ppZ2) (by decide) | exact absurd (ppZ.symm.trans ppR2) (by decide)
  · skip
    have ppV : ¬ i2 < 0 ∧ ¬ 255 < i2 := a1
    have ppT : yl < 400 ∧ i1 = nI yl := ⟨a0, e0⟩
    have nnK : ¬ (∃ k : Nat, k < yl ∧ i1 = nI k) := fun ⟨k, h1, h2⟩ => by have w := nI_inj (e0.symm.trans h2) (by omega) (by omega); omega
    rcases h2 with ⟨ns2, k2, g0, g1, b0, b1, b2, rfl, rfl, rfl, rfl⟩ | ⟨ns2, g0, g1, b0, b1, rfl, rfl, rfl, rfl⟩ | ⟨b0, rfl, v0, rfl, v2⟩ | ⟨ns2, g0, b0, b1, rfl, rfl, rfl, v2⟩
    · skip
      have ppV2 : ¬ i2 < 0 ∧ ¬ 255 < i2 := b1
      have ppK2 : ∃ k : Nat, k < yl ∧ i1 = nI k := ⟨k2, by have w := nI_inj (g1.symm.trans es) (by omega) (by omega); omega, g0⟩
      first | exact absurd ppS nnS2 | exact absurd ppS2 nnS | exact absurd ppV nnV2 | exact absurd ppV2 nnV | exact absurd ppI nnI2 | exact absurd ppI2 nnI | exact absurd ppK nnK2 | exact absurd ppK2 nnK | exact absurd ppT nnT2 | exact absurd ppT2 nnT | exact absurd ppL nnL2 | exact absurd ppL2 nnL | exact absurd ppG nnG2 | exact absurd ppG2 nnG | exact absurd ppQ nnQ2 | exact absurd ppQ2 nnQ | exact absurd ppM nnM2 | exact absurd ppM2 nnM | exact absurd ppR nnR2 | exact absurd ppR2 nnR | exact absurd ppZ nnZ2 | exact absurd ppZ2 nnZ | exact absurd (ppR.symm.trans ppZ2) (by decide) | exact absurd (ppZ.symm.trans ppR2) (by decide)
    · skip
      have ppV2 : ¬ i2 < 0 ∧ ¬ 255 < i2 := b1
      have ppT2 : yl < 400 ∧ i1 = nI yl := ⟨by have w := nI_inj (g1.symm.trans es) (by omega) (by omega); omega, g0.trans (g1.symm.trans es)⟩
      have nnK2 : ¬ (∃ k : Nat, k < yl ∧ i1 = nI k) := fun ⟨k, h1, h2⟩ => by have w := nI_inj (g1.symm.trans es) (by omega) (by omega); have w2 := nI_inj (g0.symm.trans h2) (by omega) (by omega); omega
      exact ⟨rfl, fun _ => updL0 _ _, inv_more a0 (sm_of a1) g1 b0 hI⟩
    · skip
      replace v0 := v0.symm
      subst v0
      replace v2 := v2.symm
      subst v2
      have nnV2 : ¬ (¬ i2 < 0 ∧ ¬ 255 < i2) := b0
      first | exact absurd ppS nnS2 | exact absurd ppS2 nnS | exact absurd ppV nnV2 | exact absurd ppV2 nnV | exact absurd ppI nnI2 | exact absurd ppI2 nnI | exact absurd ppK nnK2 | exact absurd ppK2 nnK | exact absurd ppT nnT2 | exact absurd ppT2 nnT | exact absurd ppL nnL2 | exact absurd ppL2 nnL | exact absurd ppG nnG2 | exact absurd ppG2 nnG | exact absurd ppQ nnQ2 | exact absurd ppQ2 nnQ | exact absurd ppM nnM2 | exact absurd ppM2 nnM | exact absurd ppR nnR2 | exact absurd ppR2 nnR | exact absurd ppZ nnZ2 | exact absurd ppZ2 nnZ | exact absurd (ppR.symm.trans ppZ2) (by decide) | exact absurd (ppZ.symm.trans ppR2) (by decide)
    · skip
      replace v2 := v2.symm
      subst v2
      have ppV2 : ¬ i2 < 0 ∧ ¬ 255 < i2 := b0
      have nnK2 : ¬ (∃ k : Nat, k < yl ∧ i1 = nI k) := fun ⟨k, h1, h2⟩ => b1.elim (fun h => h (by rw [h2, ← g0, es]; exact cs_inL (by omega) (by omega))) (fun h => by have w := nI_inj (b := 400) (h2.symm.trans h) (by omega) (by decide); omega)
      have nnT2 : ¬ (yl < 400 ∧ i1 = nI yl) := fun ⟨h1, h2⟩ => b1.elim (fun h => h (by rw [h2, ← g0, es]; exact cs_inL (by omega) (by omega))) (fun h => by have w := nI_inj (b := 400) (h2.symm.trans h) (by omega) (by decide); omega)
      first | exact absurd ppS nnS2 | exact absurd ppS2 nnS | exact absurd ppV nnV2 | exact absurd ppV2 nnV | exact absurd ppI nnI2 | exact absurd ppI2 nnI | exact absurd ppK nnK2 | exact absurd ppK2 nnK | exact absurd ppT nnT2 | exact absurd ppT2 nnT | exact absurd ppL nnL2 | exact absurd ppL2 nnL | exact absurd ppG nnG2 | exact absurd ppG2 nnG | exact absurd ppQ nnQ2 | exact absurd ppQ2 nnQ | exact absurd ppM nnM2 | exact absurd ppM2 nnM | exact absurd ppR nnR2 | exact absurd ppR2 nnR | exact absurd ppZ nnZ2 | exact absurd ppZ2 nnZ | exact absurd (ppR.symm.trans ppZ2) (by decide) | exact absurd (ppZ.symm.trans ppR2) (by decide)
  · skip
    replace u0 := u0.symm
    subst u0
    replace u1 := u1.symm
    subst u1
    replace u2 := u2.symm
    subst u2
    have nnV : ¬ (¬ i2 < 0 ∧ ¬ 255 < i2) := a0
    rcases h2 with ⟨ns2, k2, g0, g1, b0, b1, b2, rfl, rfl, rfl, rfl⟩ | ⟨ns2, g0, g1, b0, b1, rfl, rfl, rfl, rfl⟩ | ⟨b0, rfl, v0, rfl, v2⟩ | ⟨ns2, g0, b0, b1, rfl, rfl, rfl, v2⟩
    · skip
      have ppV2 : ¬ i2 < 0 ∧ ¬ 255 < i2 := b1
      have ppK2 : ∃ k : Nat, k < yl ∧ i1 = nI k := ⟨k2, by have w := nI_inj (g1.symm.trans es) (by omega) (by omega); omega, g0⟩
      first | exact absurd ppS nnS2 | exact absurd ppS2 nnS | exact absurd ppV nnV2 | exact absurd ppV2 nnV | exact absurd ppI nnI2 | exact absurd ppI2 nnI | exact absurd ppK nnK2 | exact absurd ppK2 nnK | exact absurd ppT nnT2 | exact absurd ppT2 nnT | exact absurd ppL nnL2 | exact absurd ppL2 nnL | exact absurd ppG nnG2 | exact absurd ppG2 nnG | exact absurd ppQ nnQ2 | exact absurd ppQ2 nnQ | exact absurd ppM nnM2 | exact absurd ppM2 nnM | exact absurd ppR nnR2 | exact absurd ppR2 nnR | exact absurd ppZ nnZ2 | exact absurd ppZ2 nnZ | exact absurd (ppR.symm.trans ppZ2) (by decide) | exact absurd (ppZ.symm.trans ppR2) (by decide)
    · skip
      have ppV2 : ¬ i2 < 0 ∧ ¬ 255 < i2 := b1
      have ppT2 : yl < 400 ∧ i1 = nI yl := ⟨by have w := nI_inj (g1.symm.trans es) (by omega) (by omega); omega, g0.trans (g1.symm.trans es)⟩
      have nnK2 : ¬ (∃ k : Nat, k < yl ∧ i1 = nI k) := fun ⟨k, h1, h2⟩ => by have w := nI_inj (g1.symm.trans es) (by omega) (by omega); have w2 := nI_inj (g0.symm.trans h2) (by omega) (by omega); omega
      first | exact absurd ppS nnS2 | exact absurd ppS2 nnS | exact absurd ppV nnV2 | exact absurd ppV2 nnV | exact absurd ppI nnI2 | exact absurd ppI2 nnI | exact absurd ppK nnK2 | exact absurd ppK2 nnK | exact absurd ppT nnT2 | exact absurd ppT2 nnT | exact absurd ppL nnL2 | exact absurd ppL2 nnL | exact absurd ppG nnG2 | exact absurd ppG2 nnG | exact absurd ppQ nnQ2 | exact absurd ppQ2 nnQ | exact absurd ppM nnM2 | exact absurd ppM2 nnM | exact absurd ppR nnR2 | exact absurd ppR2 nnR | exact absurd ppZ nnZ2 | exact absurd ppZ2 nnZ | exact absurd (ppR.symm.trans ppZ2) (by decide) | exact absurd (ppZ.symm.trans ppR2) (by decide)
    · skip
      replace v0 := v0.symm
      subst v0
      replace v2 := v2.symm
      subst v2
      have nnV2 : ¬ (¬ i2 < 0 ∧ ¬ 255 < i2) := b0
      exact ⟨rfl, fun h => absurd h (by decide), hI⟩
    · skip
      replace v2 := v2.symm
      subst v2
      have ppV2 : ¬ i2 < 0 ∧ ¬ 255 < i2 := b0
      have nnK2 : ¬ (∃ k : Nat, k < yl ∧ i1 = nI k) := fun ⟨k, h1, h2⟩ => b1.elim (fun h => h (by rw [h2, ← g0, es]; exact cs_inL (by omega) (by omega))) (fun h => by have w := nI_inj (b := 400) (h2.symm.trans h) (by omega) (by decide); omega)
      have nnT2 : ¬ (yl < 400 ∧ i1 = nI yl) := fun ⟨h1, h2⟩ => b1.elim (fun h => h (by rw [h2, ← g0, es]; exact cs_inL (by omega) (by omega))) (fun h => by have w := nI_inj (b := 400) (h2.symm.trans h) (by omega) (by decide); omega)
      first | exact absurd ppS nnS2 | exact absurd ppS2 nnS | exact absurd ppV nnV2 | exact absurd ppV2 nnV | exact absurd ppI nnI2 | exact absurd ppI2 nnI | exact absurd ppK nnK2 | exact absurd ppK2 nnK | exact absurd ppT nnT2 | exact absurd ppT2 nnT | exact absurd ppL nnL2 | exact absurd ppL2 nnL | exact absurd ppG nnG2 | exact absurd ppG2 nnG | exact absurd ppQ nnQ2 | exact absurd ppQ2 nnQ | exact absurd ppM nnM2 | exact absurd ppM2 nnM | exact absurd ppR nnR2 | exact absurd ppR2 nnR | exact absurd ppZ nnZ2 | exact absurd ppZ2 nnZ | exact absurd (ppR.symm.trans ppZ2) (by decide) | exact absurd (ppZ.symm.trans ppR2) (by decide)
  · skip
    replace u0 := u0.symm
    subst u0
    replace u1 := u1.symm
    subst u1
    replace u2 := u2.symm
    subst u2
    have ppV : ¬ i2 < 0 ∧ ¬ 255 < i2 := a0
    have nnK : ¬ (∃ k : Nat, k < yl ∧ i1 = nI k) := fun ⟨k, h1, h2⟩ => a1 (by rw [h2]; exact ⟨nI_pos (by omega), fun q => absurd ((nI_ltI (a := yl) (b := k) (by omega) (by omega)).mp q) (by omega), nI_lt (b := 400) (by omega) (by decide)⟩)
    have nnT : ¬ (yl < 400 ∧ i1 = nI yl) := fun ⟨h1, h2⟩ => a1 (by rw [h2]; exact ⟨nI_pos (by omega), Int32.lt_irrefl, nI_lt (b := 400) (by omega) (by decide)⟩)
    rcases h2 with ⟨ns2, k2, g0, g1, b0, b1, b2, rfl, rfl, rfl, rfl⟩ | ⟨ns2, g0, g1, b0, b1, rfl, rfl, rfl, rfl⟩ | ⟨b0, rfl, v0, rfl, v2⟩ | ⟨ns2, g0, b0, b1, rfl, rfl, rfl, v2⟩
    · skip
      have ppV2 : ¬ i2 < 0 ∧ ¬ 255 < i2 := b1
      have ppK2 : ∃ k : Nat, k < yl ∧ i1 = nI k := ⟨k2, by have w := nI_inj (g1.symm.trans es) (by omega) (by omega); omega, g0⟩
      first | exact absurd ppS nnS2 | exact absurd ppS2 nnS | exact absurd ppV nnV2 | exact absurd ppV2 nnV | exact absurd ppI nnI2 | exact absurd ppI2 nnI | exact absurd ppK nnK2 | exact absurd ppK2 nnK | exact absurd ppT nnT2 | exact absurd ppT2 nnT | exact absurd ppL nnL2 | exact absurd ppL2 nnL | exact absurd ppG nnG2 | exact absurd ppG2 nnG | exact absurd ppQ nnQ2 | exact absurd ppQ2 nnQ | exact absurd ppM nnM2 | exact absurd ppM2 nnM | exact absurd ppR nnR2 | exact absurd ppR2 nnR | exact absurd ppZ nnZ2 | exact absurd ppZ2 nnZ | exact absurd (ppR.symm.trans ppZ2) (by decide) | exact absurd (ppZ.symm.trans ppR2) (by decide)
    · skip
      have ppV2 : ¬ i2 < 0 ∧ ¬ 255 < i2 := b1
      have ppT2 : yl < 400 ∧ i1 = nI yl := ⟨by have w := nI_inj (g1.symm.trans es) (by omega) (by omega); omega, g0.trans (g1.symm.trans es)⟩
      have nnK2 : ¬ (∃ k : Nat, k < yl ∧ i1 = nI k) := fun ⟨k, h1, h2⟩ => by have w := nI_inj (g1.symm.trans es) (by omega) (by omega); have w2 := nI_inj (g0.symm.trans h2) (by omega) (by omega); omega
      first | exact absurd ppS nnS2 | exact absurd ppS2 nnS | exact absurd ppV nnV2 | exact absurd ppV2 nnV | exact absurd ppI nnI2 | exact absurd ppI2 nnI | exact absurd ppK nnK2 | exact absurd ppK2 nnK | exact absurd ppT nnT2 | exact absurd ppT2 nnT | exact absurd ppL nnL2 | exact absurd ppL2 nnL | exact absurd ppG nnG2 | exact absurd ppG2 nnG | exact absurd ppQ nnQ2 | exact absurd ppQ2 nnQ | exact absurd ppM nnM2 | exact absurd ppM2 nnM | exact absurd ppR nnR2 | exact absurd ppR2 nnR | exact absurd ppZ nnZ2 | exact absurd ppZ2 nnZ | exact absurd (ppR.symm.trans ppZ2) (by decide) | exact absurd (ppZ.symm.trans ppR2) (by decide)
    · skip
      replace v0 := v0.symm
      subst v0
      replace v2 := v2.symm
      subst v2
      have nnV2 : ¬ (¬ i2 < 0 ∧ ¬ 255 < i2) := b0
      first | exact absurd ppS nnS2 | exact absurd ppS2 nnS | exact absurd ppV nnV2 | exact absurd ppV2 nnV | exact absurd ppI nnI2 | exact absurd ppI2 nnI | exact absurd ppK nnK2 | exact absurd ppK2 nnK | exact absurd ppT nnT2 | exact absurd ppT2 nnT | exact absurd ppL nnL2 | exact absurd ppL2 nnL | exact absurd ppG nnG2 | exact absurd ppG2 nnG | exact absurd ppQ nnQ2 | exact absurd ppQ2 nnQ | exact absurd ppM nnM2 | exact absurd ppM2 nnM | exact absurd ppR nnR2 | exact absurd ppR2 nnR | exact absurd ppZ nnZ2 | exact absurd ppZ2 nnZ | exact absurd (ppR.symm.trans ppZ2) (by decide) | exact absurd (ppZ.symm.trans ppR2) (by decide)
    · skip
      replace v2 := v2.symm
      subst v2
      have ppV2 : ¬ i2 < 0 ∧ ¬ 255 < i2 := b0
      have nnK2 : ¬ (∃ k : Nat, k < yl ∧ i1 = nI k) := fun ⟨k, h1, h2⟩ => b1.elim (fun h => h (by rw [h2, ← g0, es]; exact cs_inL (by omega) (by omega))) (fun h => by have w := nI_inj (b := 400) (h2.symm.trans h) (by omega) (by decide); omega)
      have nnT2 : ¬ (yl < 400 ∧ i1 = nI yl) := fun ⟨h1, h2⟩ => b1.elim (fun h => h (by rw [h2, ← g0, es]; exact cs_inL (by omega) (by omega))) (fun h => by have w := nI_inj (b := 400) (h2.symm.trans h) (by omega) (by decide); omega)
      rw [g0] at hI
      exact ⟨rfl, fun h => absurd h (by decide), hI⟩
set_option maxHeartbeats 2000000 in
theorem p_cut {px : Nat → Int32} {vz : Int32} {vw : Int32} {vh : Int32} {pxc : Nat → Int32} {mdc : Nat → Int32} {vzc : Int32} {vwc : Int32} {vhc : Int32} {vkc : Int32} {pxr : Nat → Int32} {mdr : Nat → Int32} {vzr : Int32} {vwr : Int32} {vhr : Int32} {vkr : Int32} {yt : Nat → Int32} {yl : Nat} {ibc : Int32} {ilc : Int32} {igl : Int32} {ibk : Int32} {ifa : Int32} {ibd : Int32} {wd : Nat → Int32} {hg : Nat → Int32} {pix : Nat → Int32} {str : Nat → Int32} {mds : Nat → Int32} {thr : Nat → Int32} {isz : Int32} {ibl : Int32} {ile : Int32} {igr : Int32} {mbk : Int32} {ist : Int32} {ibr : Int32} {fou : Nat → Int64} {i1 : Int32} {ylN : Nat} {fouN : Nat → Int64} {iszN : Int32} {ithN : Int32} {k : Int32} {bb : Int32} (hI : INV px vz vw vh pxc mdc vzc vwc vhc vkc pxr mdr vzr vwr vhr vkr yt yl ibc ilc igl ibk ifa ibd wd hg pix str mds thr isz ibl ile igr mbk ist ibr) (h1 : rx_cut yl fou i1 ylN fouN k) (h2 : rm_cut isz i1 iszN ithN bb) : ithN = k ∧ (k = 0 → fouN 0 = Int32.toInt64 bb) ∧ INV px vz vw vh pxc mdc vzc vwc vhc vkc pxr mdr vzr vwr vhr vkr yt ylN ibc ilc igl ibk ifa ibd wd hg pix str mds thr iszN ibl ile igr mbk ist ibr := by
  have hI0 := hI
  obtain ⟨⟨z0, t0, ⟨cw0, ch0, hcw0, hch0, ew, eh, mw, mh⟩, hpx⟩, A1, A2, B1, B2, ⟨es, hyl, hyt⟩, ⟨q1, q2, q3, q4, q5⟩, hPX⟩ := hI0
  unfold rx_cut at h1
  unfold rm_cut at h2
  rcases h1 with ⟨k, e0, a0, a1, rfl, u0, rfl⟩ | ⟨a0, rfl, u0, u1⟩
  · skip
    replace u0 := u0.symm
    subst u0
    have ppK : ∃ k : Nat, k ≤ yl ∧ i1 = nI k := ⟨k, a1, e0⟩
    rcases h2 with ⟨ns2, k2, g0, g1, b0, b1, rfl, rfl, rfl⟩ | ⟨ns2, g0, b0, rfl, rfl, rfl⟩
    · skip
      have ppK2 : ∃ k : Nat, k ≤ yl ∧ i1 = nI k := ⟨k2, by have w := nI_inj (g1.symm.trans es) (by omega) (by omega); omega, g0⟩
      have w1 := nI_inj (e0.symm.trans g0) (by omega) (by omega)
      subst w1
      exact ⟨rfl, fun _ => by rw [updL0, ← g1, es], inv_cut a1 hI⟩
    · skip
      have nnK2 : ¬ (∃ k : Nat, k ≤ yl ∧ i1 = nI k) := fun ⟨k, h1, h2⟩ => b0 (by rw [h2, ← g0, es]; exact cs_inL h1 (by omega))
      first | exact absurd ppS nnS2 | exact absurd ppS2 nnS | exact absurd ppV nnV2 | exact absurd ppV2 nnV | exact absurd ppI nnI2 | exact absurd ppI2 nnI | exact absurd ppK nnK2 | exact absurd ppK2 nnK | exact absurd ppT nnT2 | exact absurd ppT2 nnT | exact absurd ppL nnL2 | exact absurd ppL2 nnL | exact absurd ppG nnG2 | exact absurd ppG2 nnG | exact absurd ppQ nnQ2 | exact absurd ppQ2 nnQ | exact absurd ppM nnM2 | exact absurd ppM2 nnM | exact absurd ppR nnR2 | exact absurd ppR2 nnR | exact absurd ppZ nnZ2 | exact absurd ppZ2 nnZ | exact absurd (ppR.symm.trans ppZ2) (by decide) | exact absurd (ppZ.symm.trans ppR2) (by decide)
  · skip
    replace u0 := u0.symm
    subst u0
    replace u1 := u1.symm
    subst u1
    have nnK : ¬ (∃ k : Nat, k ≤ yl ∧ i1 = nI k) := fun ⟨k, h1, h2⟩ => a0 (by rw [h2]; exact cs_inL h1 (by omega))
    rcases h2 with ⟨ns2, k2, g0, g1, b0, b1, rfl, rfl, rfl⟩ | ⟨ns2, g0, b0, rfl, rfl, rfl⟩
    · skip
      have ppK2 : ∃ k : Nat, k ≤ yl ∧ i1 = nI k := ⟨k2, by have w := nI_inj (g1.symm.trans es) (by omega) (by omega); omega, g0⟩
      first | exact absurd ppS nnS2 | exact absurd ppS2 nnS | exact absurd ppV nnV2 | exact absurd ppV2 nnV | exact absurd ppI nnI2 | exact absurd ppI2 nnI | exact absurd ppK nnK2 | exact absurd ppK2 nnK | exact absurd ppT nnT2 | exact absurd ppT2 nnT | exact absurd ppL nnL2 | exact absurd ppL2 nnL | exact absurd ppG nnG2 | exact absurd ppG2 nnG | exact absurd ppQ nnQ2 | exact absurd ppQ2 nnQ | exact absurd ppM nnM2 | exact absurd ppM2 nnM | exact absurd ppR nnR2 | exact absurd ppR2 nnR | exact absurd ppZ nnZ2 | exact absurd ppZ2 nnZ | exact absurd (ppR.symm.trans ppZ2) (by decide) | exact absurd (ppZ.symm.trans ppR2) (by decide)
    · skip
      have nnK2 : ¬ (∃ k : Nat, k ≤ yl ∧ i1 = nI k) := fun ⟨k, h1, h2⟩ => b0 (by rw [h2, ← g0, es]; exact cs_inL h1 (by omega))
      rw [g0] at hI
      exact ⟨rfl, fun h => absurd h (by decide), hI⟩
set_option maxHeartbeats 2000000 in
theorem p_mode {px : Nat → Int32} {vz : Int32} {vw : Int32} {vh : Int32} {pxc : Nat → Int32} {mdc : Nat → Int32} {vzc : Int32} {vwc : Int32} {vhc : Int32} {vkc : Int32} {pxr : Nat → Int32} {mdr : Nat → Int32} {vzr : Int32} {vwr : Int32} {vhr : Int32} {vkr : Int32} {yt : Nat → Int32} {yl : Nat} {ibc : Int32} {ilc : Int32} {igl : Int32} {ibk : Int32} {ifa : Int32} {ibd : Int32} {wd : Nat → Int32} {hg : Nat → Int32} {pix : Nat → Int32} {str : Nat → Int32} {mds : Nat → Int32} {thr : Nat → Int32} {isz : Int32} {ibl : Int32} {ile : Int32} {igr : Int32} {mbk : Int32} {ist : Int32} {ibr : Int32} {fou : Nat → Int64} {i1 : Int32} {i2 : Int32} {fouN : Nat → Int64} {ithN : Int32} {k : Int32} {bb : Int32} (hI : INV px vz vw vh pxc mdc vzc vwc vhc vkc pxr mdr vzr vwr vhr vkr yt yl ibc ilc igl ibk ifa ibd wd hg pix str mds thr isz ibl ile igr mbk ist ibr) (h1 : rx_mode vkc mdc vkr mdr fou i1 i2 fouN k) (h2 : rm_mode mbk wd hg mds thr i1 i2 ithN bb) : ithN = k ∧ (k = 0 → fouN 0 = Int32.toInt64 bb) ∧ INV px vz vw vh pxc mdc vzc vwc vhc vkc pxr mdr vzr vwr vhr vkr yt yl ibc ilc igl ibk ifa ibd wd hg pix str mds thr isz ibl ile igr mbk ist ibr := by
  have hI0 := hI
  obtain ⟨⟨z0, t0, ⟨cw0, ch0, hcw0, hch0, ew, eh, mw, mh⟩, hpx⟩, A1, A2, B1, B2, ⟨es, hyl, hyt⟩, ⟨q1, q2, q3, q4, q5⟩, hPX⟩ := hI0
  obtain ⟨nr, hr1, hr2, hr3, hr4, hr5⟩ := B2
  obtain ⟨nc, hc1, hc2, hc3, hc4⟩ := B1
  have hm0 : thr 1 = 0 → nc = 0 := fun h0 => by
    rcases hc4 with ⟨-, h⟩ | ⟨h, -⟩
    · exact h
    · exact absurd h0 h
  have hm1 : ∀ d1 d2 : Nat, ¬ thr 1 = 0 → wd 1 = nI (4 * d1) → hg 1 = nI (4 * d2) → d1 ≤ 3 → d2 ≤ 3 → nc = d1 * d2 := fun d1 d2 h0 y1 y2 y3 y4 => by
    rcases hc4 with ⟨h, -⟩ | ⟨-, c1, c2, h1, h2, h3, h4, h5⟩
    · exact absurd h h0
    · have w1 := nI_inj (y1.symm.trans h3) (by omega) (by omega)
      have w2 := nI_inj (y2.symm.trans h4) (by omega) (by omega)
      rw [h5, show c1 = d1 by omega, show c2 = d2 by omega]
  unfold rx_mode at h1
  unfold rm_mode at h2
  rcases h1 with ⟨kn, k, e0, e1, e2, a0, a1, rfl, rfl⟩ | ⟨kn, k, e0, e1, e2, a0, a1, rfl, rfl⟩ | ⟨e0, a0, rfl, u0⟩ | ⟨e0, a0, rfl, u0⟩
  · skip
    have ppR : i1 = 1 := e0
    have ppK : ∃ k : Nat, k < nr ∧ i2 = nI k := ⟨k, by have w := nI_inj (e2.symm.trans hr2) (by omega) (by omega); omega, e1⟩
    rcases h2 with ⟨nbk2, k2, g0, g1, g2, b0, b1, rfl, rfl⟩ | ⟨nbk2, g0, g1, b0, rfl, rfl⟩ | ⟨k2, cw2, ch2, g0, g1, b0, b1, b2, b3, b4, b5, rfl, rfl⟩ | ⟨cw2, ch2, g0, b0, b1, b2, b3, b4, b5, rfl, rfl⟩ | ⟨g0, b0, rfl, rfl⟩
    · skip
      have ppR2 : i1 = 1 := g0
      have ppK2 : ∃ k : Nat, k < nr ∧ i2 = nI k := ⟨k2, by have w := nI_inj (g2.symm.trans hr4) (by omega) (by omega); omega, g1⟩
      have w1 := nI_inj (e1.symm.trans g1) (by omega) (by omega)
      subst w1
      exact ⟨rfl, fun _ => by rw [updL0, hr5 _ (by have w := nI_inj (e2.symm.trans hr2) (by omega) (by omega); omega)], hI⟩
    · skip
      have ppR2 : i1 = 1 := g0
      have nnK2 : ¬ (∃ k : Nat, k < nr ∧ i2 = nI k) := fun ⟨k, h1, h2⟩ => b0 (by rw [h2, ← g1, hr4]; exact cs_inN h1 (by omega))
      first | exact absurd ppS nnS2 | exact absurd ppS2 nnS | exact absurd ppV nnV2 | exact absurd ppV2 nnV | exact absurd ppI nnI2 | exact absurd ppI2 nnI | exact absurd ppK nnK2 | exact absurd ppK2 nnK | exact absurd ppT nnT2 | exact absurd ppT2 nnT | exact absurd ppL nnL2 | exact absurd ppL2 nnL | exact absurd ppG nnG2 | exact absurd ppG2 nnG | exact absurd ppQ nnQ2 | exact absurd ppQ2 nnQ | exact absurd ppM nnM2 | exact absurd ppM2 nnM | exact absurd ppR nnR2 | exact absurd ppR2 nnR | exact absurd ppZ nnZ2 | exact absurd ppZ2 nnZ | exact absurd (ppR.symm.trans ppZ2) (by decide) | exact absurd (ppZ.symm.trans ppR2) (by decide)
    · skip
      have ppZ2 : i1 = 0 := g0
      have ppM2 : ∃ k : Nat, k < nc ∧ i2 = nI k := ⟨k2, by rw [hm1 cw2 ch2 b0 b1 b2 b3 b4]; exact b5, g1⟩
      first | exact absurd ppS nnS2 | exact absurd ppS2 nnS | exact absurd ppV nnV2 | exact absurd ppV2 nnV | exact absurd ppI nnI2 | exact absurd ppI2 nnI | exact absurd ppK nnK2 | exact absurd ppK2 nnK | exact absurd ppT nnT2 | exact absurd ppT2 nnT | exact absurd ppL nnL2 | exact absurd ppL2 nnL | exact absurd ppG nnG2 | exact absurd ppG2 nnG | exact absurd ppQ nnQ2 | exact absurd ppQ2 nnQ | exact absurd ppM nnM2 | exact absurd ppM2 nnM | exact absurd ppR nnR2 | exact absurd ppR2 nnR | exact absurd ppZ nnZ2 | exact absurd ppZ2 nnZ | exact absurd (ppR.symm.trans ppZ2) (by decide) | exact absurd (ppZ.symm.trans ppR2) (by decide)
    · skip
      have ppZ2 : i1 = 0 := g0
      have nnM2 : ¬ (∃ k : Nat, k < nc ∧ i2 = nI k) := fun ⟨k, q8, q9⟩ => b5 (by rw [q9, ← hm1 cw2 ch2 b0 b1 b2 b3 b4]; exact cs_inN q8 (by omega))
      first | exact absurd ppS nnS2 | exact absurd ppS2 nnS | exact absurd ppV nnV2 | exact absurd ppV2 nnV | exact absurd ppI nnI2 | exact absurd ppI2 nnI | exact absurd ppK nnK2 | exact absurd ppK2 nnK | exact absurd ppT nnT2 | exact absurd ppT2 nnT | exact absurd ppL nnL2 | exact absurd ppL2 nnL | exact absurd ppG nnG2 | exact absurd ppG2 nnG | exact absurd ppQ nnQ2 | exact absurd ppQ2 nnQ | exact absurd ppM nnM2 | exact absurd ppM2 nnM | exact absurd ppR nnR2 | exact absurd ppR2 nnR | exact absurd ppZ nnZ2 | exact absurd ppZ2 nnZ | exact absurd (ppR.symm.trans ppZ2) (by decide) | exact absurd (ppZ.symm.trans ppR2) (by decide)
    · skip
      have ppZ2 : i1 = 0 := g0
      have nnM2 : ¬ (∃ k : Nat, k < nc ∧ i2 = nI k) := fun ⟨k, q8, q9⟩ => by have h7 := hm0 b0; omega
      first | exact absurd ppS nnS2 | exact absurd ppS2 nnS | exact absurd ppV nnV2 | exact absurd ppV2 nnV | exact absurd ppI nnI2 | exact absurd ppI2 nnI | exact absurd ppK nnK2 | exact absurd ppK2 nnK | exact absurd ppT nnT2 | exact absurd ppT2 nnT | exact absurd ppL nnL2 | exact absurd ppL2 nnL | exact absurd ppG nnG2 | exact absurd ppG2 nnG | exact absurd ppQ nnQ2 | exact absurd ppQ2 nnQ | exact absurd ppM nnM2 | exact absurd ppM2 nnM | exact absurd ppR nnR2 | exact absurd ppR2 nnR | exact absurd ppZ nnZ2 | exact absurd ppZ2 nnZ | exact absurd (ppR.symm.trans ppZ2) (by decide) | exact absurd (ppZ.symm.trans ppR2) (by decide)
  · skip
    have ppZ : i1 = 0 := e0
    have ppM : ∃ k : Nat, k < nc ∧ i2 = nI k := ⟨k, by have w := nI_inj (e2.symm.trans hc2) (by omega) (by omega); omega, e1⟩
    rcases h2 with ⟨nbk2, k2, g0, g1, g2, b0, b1, rfl, rfl⟩ | ⟨nbk2, g0, g1, b0, rfl, rfl⟩ | ⟨k2, cw2, ch2, g0, g1, b0, b1, b2, b3, b4, b5, rfl, rfl⟩ | ⟨cw2, ch2, g0, b0, b1, b2, b3, b4, b5, rfl, rfl⟩ | ⟨g0, b0, rfl, rfl⟩
    · skip
      have ppR2 : i1 = 1 := g0
      have ppK2 : ∃ k : Nat, k < nr ∧ i2 = nI k := ⟨k2, by have w := nI_inj (g2.symm.trans hr4) (by omega) (by omega); omega, g1⟩
      first | exact absurd ppS nnS2 | exact absurd ppS2 nnS | exact absurd ppV nnV2 | exact absurd ppV2 nnV | exact absurd ppI nnI2 | exact absurd ppI2 nnI | exact absurd ppK nnK2 | exact absurd ppK2 nnK | exact absurd ppT nnT2 | exact absurd ppT2 nnT | exact absurd ppL nnL2 | exact absurd ppL2 nnL | exact absurd ppG nnG2 | exact absurd ppG2 nnG | exact absurd ppQ nnQ2 | exact absurd ppQ2 nnQ | exact absurd ppM nnM2 | exact absurd ppM2 nnM | exact absurd ppR nnR2 | exact absurd ppR2 nnR | exact absurd ppZ nnZ2 | exact absurd ppZ2 nnZ | exact absurd (ppR.symm.trans ppZ2) (by decide) | exact absurd (ppZ.symm.trans ppR2) (by decide)
    · skip
      have ppR2 : i1 = 1 := g0
      have nnK2 : ¬ (∃ k : Nat, k < nr ∧ i2 = nI k) := fun ⟨k, h1, h2⟩ => b0 (by rw [h2, ← g1, hr4]; exact cs_inN h1 (by omega))
      first | exact absurd ppS nnS2 | exact absurd ppS2 nnS | exact absurd ppV nnV2 | exact absurd ppV2 nnV | exact absurd ppI nnI2 | exact absurd ppI2 nnI | exact absurd ppK nnK2 | exact absurd ppK2 nnK | exact absurd ppT nnT2 | exact absurd ppT2 nnT | exact absurd ppL nnL2 | exact absurd ppL2 nnL | exact absurd ppG nnG2 | exact absurd ppG2 nnG | exact absurd ppQ nnQ2 | exact absurd ppQ2 nnQ | exact absurd ppM nnM2 | exact absurd ppM2 nnM | exact absurd ppR nnR2 | exact absurd ppR2 nnR | exact absurd ppZ nnZ2 | exact absurd ppZ2 nnZ | exact absurd (ppR.symm.trans ppZ2) (by decide) | exact absurd (ppZ.symm.trans ppR2) (by decide)
    · skip
      have ppZ2 : i1 = 0 := g0
      have ppM2 : ∃ k : Nat, k < nc ∧ i2 = nI k := ⟨k2, by rw [hm1 cw2 ch2 b0 b1 b2 b3 b4]; exact b5, g1⟩
      have h99 : cw2 * ch2 ≤ 3 * 3 := Nat.mul_le_mul b3 b4
      have w1 := nI_inj (e1.symm.trans g1) (by omega) (by omega)
      subst w1
      exact ⟨rfl, fun _ => by rw [updL0, hc3 _ (by have w := nI_inj (e2.symm.trans hc2) (by omega) (by omega); omega)], hI⟩
    · skip
      have ppZ2 : i1 = 0 := g0
      have nnM2 : ¬ (∃ k : Nat, k < nc ∧ i2 = nI k) := fun ⟨k, q8, q9⟩ => b5 (by rw [q9, ← hm1 cw2 ch2 b0 b1 b2 b3 b4]; exact cs_inN q8 (by omega))
      first | exact absurd ppS nnS2 | exact absurd ppS2 nnS | exact absurd ppV nnV2 | exact absurd ppV2 nnV | exact absurd ppI nnI2 | exact absurd ppI2 nnI | exact absurd ppK nnK2 | exact absurd ppK2 nnK | exact absurd ppT nnT2 | exact absurd ppT2 nnT | exact absurd ppL nnL2 | exact absurd ppL2 nnL | exact absurd ppG nnG2 | exact absurd ppG2 nnG | exact absurd ppQ nnQ2 | exact absurd ppQ2 nnQ | exact absurd ppM nnM2 | exact absurd ppM2 nnM | exact absurd ppR nnR2 | exact absurd ppR2 nnR | exact absurd ppZ nnZ2 | exact absurd ppZ2 nnZ | exact absurd (ppR.symm.trans ppZ2) (by decide) | exact absurd (ppZ.symm.trans ppR2) (by decide)
    · skip
      have ppZ2 : i1 = 0 := g0
      have nnM2 : ¬ (∃ k : Nat, k < nc ∧ i2 = nI k) := fun ⟨k, q8, q9⟩ => by have h7 := hm0 b0; omega
      first | exact absurd ppS nnS2 | exact absurd ppS2 nnS | exact absurd ppV nnV2 | exact absurd ppV2 nnV | exact absurd ppI nnI2 | exact absurd ppI2 nnI | exact absurd ppK nnK2 | exact absurd ppK2 nnK | exact absurd ppT nnT2 | exact absurd ppT2 nnT | exact absurd ppL nnL2 | exact absurd ppL2 nnL | exact absurd ppG nnG2 | exact absurd ppG2 nnG | exact absurd ppQ nnQ2 | exact absurd ppQ2 nnQ | exact absurd ppM nnM2 | exact absurd ppM2 nnM | exact absurd ppR nnR2 | exact absurd ppR2 nnR | exact absurd ppZ nnZ2 | exact absurd ppZ2 nnZ | exact absurd (ppR.symm.trans ppZ2) (by decide) | exact absurd (ppZ.symm.trans ppR2) (by decide)
  · skip
    replace u0 := u0.symm
    subst u0
    have ppR : i1 = 1 := e0
    have nnK : ¬ (∃ k : Nat, k < nr ∧ i2 = nI k) := fun ⟨k, h1, h2⟩ => a0 (by rw [h2, hr2]; exact ⟨nI_pos (by omega), nI_ge h1 (by omega), nI_ge (b := 9) (by omega) (by decide)⟩)
    rcases h2 with ⟨nbk2, k2, g0, g1, g2, b0, b1, rfl, rfl⟩ | ⟨nbk2, g0, g1, b0, rfl, rfl⟩ | ⟨k2, cw2, ch2, g0, g1, b0, b1, b2, b3, b4, b5, rfl, rfl⟩ | ⟨cw2, ch2, g0, b0, b1, b2, b3, b4, b5, rfl, rfl⟩ | ⟨g0, b0, rfl, rfl⟩
    · skip
      have ppR2 : i1 = 1 := g0
      have ppK2 : ∃ k : Nat, k < nr ∧ i2 = nI k := ⟨k2, by have w := nI_inj (g2.symm.trans hr4) (by omega) (by omega); omega, g1⟩
      first | exact absurd ppS nnS2 | exact absurd ppS2 nnS | exact absurd ppV nnV2 | exact absurd ppV2 nnV | exact absurd ppI nnI2 | exact absurd ppI2 nnI | exact absurd ppK nnK2 | exact absurd ppK2 nnK | exact absurd ppT nnT2 | exact absurd ppT2 nnT | exact absurd ppL nnL2 | exact absurd ppL2 nnL | exact absurd ppG nnG2 | exact absurd ppG2 nnG | exact absurd ppQ nnQ2 | exact absurd ppQ2 nnQ | exact absurd ppM nnM2 | exact absurd ppM2 nnM | exact absurd ppR nnR2 | exact absurd ppR2 nnR | exact absurd ppZ nnZ2 | exact absurd ppZ2 nnZ | exact absurd (ppR.symm.trans ppZ2) (by decide) | exact absurd (ppZ.symm.trans ppR2) (by decide)
    · skip
      have ppR2 : i1 = 1 := g0
      have nnK2 : ¬ (∃ k : Nat, k < nr ∧ i2 = nI k) := fun ⟨k, h1, h2⟩ => b0 (by rw [h2, ← g1, hr4]; exact cs_inN h1 (by omega))
      exact ⟨rfl, fun h => absurd h (by decide), hI⟩
    · skip
      have ppZ2 : i1 = 0 := g0
      have ppM2 : ∃ k : Nat, k < nc ∧ i2 = nI k := ⟨k2, by rw [hm1 cw2 ch2 b0 b1 b2 b3 b4]; exact b5, g1⟩
      first | exact absurd ppS nnS2 | exact absurd ppS2 nnS | exact absurd ppV nnV2 | exact absurd ppV2 nnV | exact absurd ppI nnI2 | exact absurd ppI2 nnI | exact absurd ppK nnK2 | exact absurd ppK2 nnK | exact absurd ppT nnT2 | exact absurd ppT2 nnT | exact absurd ppL nnL2 | exact absurd ppL2 nnL | exact absurd ppG nnG2 | exact absurd ppG2 nnG | exact absurd ppQ nnQ2 | exact absurd ppQ2 nnQ | exact absurd ppM nnM2 | exact absurd ppM2 nnM | exact absurd ppR nnR2 | exact absurd ppR2 nnR | exact absurd ppZ nnZ2 | exact absurd ppZ2 nnZ | exact absurd (ppR.symm.trans ppZ2) (by decide) | exact absurd (ppZ.symm.trans ppR2) (by decide)
    · skip
      have ppZ2 : i1 = 0 := g0
      have nnM2 : ¬ (∃ k : Nat, k < nc ∧ i2 = nI k) := fun ⟨k, q8, q9⟩ => b5 (by rw [q9, ← hm1 cw2 ch2 b0 b1 b2 b3 b4]; exact cs_inN q8 (by omega))
      first | exact absurd ppS nnS2 | exact absurd ppS2 nnS | exact absurd ppV nnV2 | exact absurd ppV2 nnV | exact absurd ppI nnI2 | exact absurd ppI2 nnI | exact absurd ppK nnK2 | exact absurd ppK2 nnK | exact absurd ppT nnT2 | exact absurd ppT2 nnT | exact absurd ppL nnL2 | exact absurd ppL2 nnL | exact absurd ppG nnG2 | exact absurd ppG2 nnG | exact absurd ppQ nnQ2 | exact absurd ppQ2 nnQ | exact absurd ppM nnM2 | exact absurd ppM2 nnM | exact absurd ppR nnR2 | exact absurd ppR2 nnR | exact absurd ppZ nnZ2 | exact absurd ppZ2 nnZ | exact absurd (ppR.symm.trans ppZ2) (by decide) | exact absurd (ppZ.symm.trans ppR2) (by decide)
    · skip
      have ppZ2 : i1 = 0 := g0
      have nnM2 : ¬ (∃ k : Nat, k < nc ∧ i2 = nI k) := fun ⟨k, q8, q9⟩ => by have h7 := hm0 b0; omega
      first | exact absurd ppS nnS2 | exact absurd ppS2 nnS | exact absurd ppV nnV2 | exact absurd ppV2 nnV | exact absurd ppI nnI2 | exact absurd ppI2 nnI | exact absurd ppK nnK2 | exact absurd ppK2 nnK | exact absurd ppT nnT2 | exact absurd ppT2 nnT | exact absurd ppL nnL2 | exact absurd ppL2 nnL | exact absurd ppG nnG2 | exact absurd ppG2 nnG | exact absurd ppQ nnQ2 | exact absurd ppQ2 nnQ | exact absurd ppM nnM2 | exact absurd ppM2 nnM | exact absurd ppR nnR2 | exact absurd ppR2 nnR | exact absurd ppZ nnZ2 | exact absurd ppZ2 nnZ | exact absurd (ppR.symm.trans ppZ2) (by decide) | exact absurd (ppZ.symm.trans ppR2) (by decide)
  · skip
    replace u0 := u0.symm
    subst u0
    have ppZ : i1 = 0 := e0
    have nnM : ¬ (∃ k : Nat, k < nc ∧ i2 = nI k) := fun ⟨k, h1, h2⟩ => a0 (by rw [h2, hc2]; exact ⟨nI_pos (by omega), nI_ge h1 (by omega), nI_ge (b := 9) (by omega) (by decide)⟩)
    rcases h2 with ⟨nbk2, k2, g0, g1, g2, b0, b1, rfl, rfl⟩ | ⟨nbk2, g0, g1, b0, rfl, rfl⟩ | ⟨k2, cw2, ch2, g0, g1, b0, b1, b2, b3, b4, b5, rfl, rfl⟩ | ⟨cw2, ch2, g0, b0, b1, b2, b3, b4, b5, rfl, rfl⟩ | ⟨g0, b0, rfl, rfl⟩
    · skip
      have ppR2 : i1 = 1 := g0
      have ppK2 : ∃ k : Nat, k < nr ∧ i2 = nI k := ⟨k2, by have w := nI_inj (g2.symm.trans hr4) (by omega) (by omega); omega, g1⟩
      first | exact absurd ppS nnS2 | exact absurd ppS2 nnS | exact absurd ppV nnV2 | exact absurd ppV2 nnV | exact absurd ppI nnI2 | exact absurd ppI2 nnI | exact absurd ppK nnK2 | exact absurd ppK2 nnK | exact absurd ppT nnT2 | exact absurd ppT2 nnT | exact absurd ppL nnL2 | exact absurd ppL2 nnL | exact absurd ppG nnG2 | exact absurd ppG2 nnG | exact absurd ppQ nnQ2 | exact absurd ppQ2 nnQ | exact absurd ppM nnM2 | exact absurd ppM2 nnM | exact absurd ppR nnR2 | exact absurd ppR2 nnR | exact absurd ppZ nnZ2 | exact absurd ppZ2 nnZ | exact absurd (ppR.symm.trans ppZ2) (by decide) | exact absurd (ppZ.symm.trans ppR2) (by decide)
    · skip
      have ppR2 : i1 = 1 := g0
      have nnK2 : ¬ (∃ k : Nat, k < nr ∧ i2 = nI k) := fun ⟨k, h1, h2⟩ => b0 (by rw [h2, ← g1, hr4]; exact cs_inN h1 (by omega))
      first | exact absurd ppS nnS2 | exact absurd ppS2 nnS | exact absurd ppV nnV2 | exact absurd ppV2 nnV | exact absurd ppI nnI2 | exact absurd ppI2 nnI | exact absurd ppK nnK2 | exact absurd ppK2 nnK | exact absurd ppT nnT2 | exact absurd ppT2 nnT | exact absurd ppL nnL2 | exact absurd ppL2 nnL | exact absurd ppG nnG2 | exact absurd ppG2 nnG | exact absurd ppQ nnQ2 | exact absurd ppQ2 nnQ | exact absurd ppM nnM2 | exact absurd ppM2 nnM | exact absurd ppR nnR2 | exact absurd ppR2 nnR | exact absurd ppZ nnZ2 | exact absurd ppZ2 nnZ | exact absurd (ppR.symm.trans ppZ2) (by decide) | exact absurd (ppZ.symm.trans ppR2) (by decide)
    · skip
      have ppZ2 : i1 = 0 := g0
      have ppM2 : ∃ k : Nat, k < nc ∧ i2 = nI k := ⟨k2, by rw [hm1 cw2 ch2 b0 b1 b2 b3 b4]; exact b5, g1⟩
      first | exact absurd ppS nnS2 | exact absurd ppS2 nnS | exact absurd ppV nnV2 | exact absurd ppV2 nnV | exact absurd ppI nnI2 | exact absurd ppI2 nnI | exact absurd ppK nnK2 | exact absurd ppK2 nnK | exact absurd ppT nnT2 | exact absurd ppT2 nnT | exact absurd ppL nnL2 | exact absurd ppL2 nnL | exact absurd ppG nnG2 | exact absurd ppG2 nnG | exact absurd ppQ nnQ2 | exact absurd ppQ2 nnQ | exact absurd ppM nnM2 | exact absurd ppM2 nnM | exact absurd ppR nnR2 | exact absurd ppR2 nnR | exact absurd ppZ nnZ2 | exact absurd ppZ2 nnZ | exact absurd (ppR.symm.trans ppZ2) (by decide) | exact absurd (ppZ.symm.trans ppR2) (by decide)
    · skip
      have ppZ2 : i1 = 0 := g0
      have nnM2 : ¬ (∃ k : Nat, k < nc ∧ i2 = nI k) := fun ⟨k, q8, q9⟩ => b5 (by rw [q9, ← hm1 cw2 ch2 b0 b1 b2 b3 b4]; exact cs_inN q8 (by omega))
      exact ⟨rfl, fun h => absurd h (by decide), hI⟩
    · skip
      have ppZ2 : i1 = 0 := g0
      have nnM2 : ¬ (∃ k : Nat, k < nc ∧ i2 = nI k) := fun ⟨k, q8, q9⟩ => by have h7 := hm0 b0; omega
      exact ⟨rfl, fun h => absurd h (by decide), hI⟩
