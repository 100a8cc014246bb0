set_option maxHeartbeats 2000000 in
theorem p_decode {px : Nat → Int32} {vz : Int32} {vw : Int32} {vh : Int32} {pxc : Nat → Int32} {mdc : Nat → Int32} {vzc : Int32} {vwc : Int32} {vhc : Int32} {vkc : Int32} {pxr : Nat → Int32} {mdr : Nat → Int32} {vzr : Int32} {vwr : Int32} {vhr : Int32} {vkr : Int32} {yt : Nat → Int32} {yl : Nat} {ibc : Int32} {ilc : Int32} {igl : Int32} {ibk : Int32} {ifa : Int32} {ibd : Int32} {wd : Nat → Int32} {hg : Nat → Int32} {pix : Nat → Int32} {str : Nat → Int32} {mds : Nat → Int32} {thr : Nat → Int32} {isz : Int32} {ibl : Int32} {ile : Int32} {igr : Int32} {mbk : Int32} {ist : Int32} {ibr : Int32} {boR : Int32} {vrR : Int32} {vcR : Int32} {crR : Int32} {abR : Nat → Int32} {lfR : Nat → Int32} {foR : Nat → Int32} {lvR : Nat → Int32} {wkR : Nat → Int32} {usR : Int32} {unR : Int32} {us2R : Int32} {un2R : Int32} {yp : Nat} {fou : Nat → Int64} {icoM : Int32} {iclM : Int32} {irwM : Int32} {ibiM : Int32} {ienM : Int32} {itrM : Int32} {bkM : Nat → Int32} {lvM : Nat → Int32} {tdM : Nat → Int32} {abM : Nat → Int32} {lfM : Nat → Int32} {suM : Nat → Int32} {mnM : Nat → Int32} {ibkN : Int32} {ifaN : Int32} {ibdN : Int32} {boRN : Int32} {vrRN : Int32} {vcRN : Int32} {crRN : Int32} {abRN : Nat → Int32} {lfRN : Nat → Int32} {foRN : Nat → Int32} {lvRN : Nat → Int32} {wkRN : Nat → Int32} {usRN : Int32} {unRN : Int32} {us2RN : Int32} {un2RN : Int32} {ypN : Nat} {vzrN : Int32} {vwrN : Int32} {vhrN : Int32} {vkrN : Int32} {pxrN : Nat → Int32} {mdrN : Nat → Int32} {fouN : Nat → Int64} {ithN : Int32} {icoMN : Int32} {iclMN : Int32} {irwMN : Int32} {ibiMN : Int32} {ienMN : Int32} {itrMN : Int32} {mbkN : Int32} {istN : Int32} {ibrN : Int32} {wdN : Nat → Int32} {hgN : Nat → Int32} {pixN : Nat → Int32} {bkMN : Nat → Int32} {lvMN : Nat → Int32} {tdMN : Nat → Int32} {abMN : Nat → Int32} {lfMN : Nat → Int32} {mdsN : Nat → Int32} {suMN : Nat → Int32} {mnMN : Nat → Int32} {thrN : Nat → Int32} {k : Int32} {bb : Int32} (hI : INV px vz vw vh pxc mdc vzc vwc vhc vkc pxr mdr vzr vwr vhr vkr yt yl ibc ilc igl ibk ifa ibd wd hg pix str mds thr isz ibl ile igr mbk ist ibr) (h1 : rx_decode ibk ifa ibd boR vrR vcR crR abR lfR foR lvR wkR usR unR us2R un2R yl yp yt vzr vwr vhr vkr pxr mdr fou ibkN ifaN ibdN boRN vrRN vcRN crRN abRN lfRN foRN lvRN wkRN usRN unRN us2RN un2RN ypN vzrN vwrN vhrN vkrN pxrN mdrN fouN k) (h2 : rm_decode isz icoM iclM irwM ibiM ienM itrM mbk ist ibr wd hg pix str bkM lvM tdM abM lfM mds suM mnM thr ithN icoMN iclMN irwMN ibiMN ienMN itrMN mbkN istN ibrN wdN hgN pixN bkMN lvMN tdMN abMN lfMN mdsN suMN mnMN thrN bb) : ithN = k ∧ (k = 0 → fouN 0 = Int32.toInt64 bb) ∧ INV px vz vw vh pxc mdc vzc vwc vhc vkc pxrN mdrN vzrN vwrN vhrN vkrN yt yl ibc ilc igl ibkN ifaN ibdN wdN hgN pixN str mdsN thrN isz ibl ile igr mbkN istN ibrN := by
  have hI0 := hI
  obtain ⟨⟨z0, t0, ⟨cw0, ch0, hcw0, hch0, ew, eh, mw, mh⟩, hpx⟩, A1, A2, B1, B2, ⟨es, hyl, hyt⟩, ⟨q1, q2, q3, q4, q5⟩, hPX⟩ := hI0
  unfold rx_decode at h1
  unfold rm_decode at h2
  rcases h1 with ⟨cw, ch, px0, ab', lf', fo', wk', vr', vc', cr', a0, a1, a2, a3, a4, a5, fa0, rfl, rfl, rfl, rfl, rfl, u4, u5, u6, u7, u8, u9, rfl, u11, rfl, rfl, rfl, rfl, rfl, rfl, rfl, rfl, rfl, rfl, rfl, rfl⟩ | ⟨a0, rfl, u0, u1, u2, u3, u4, u5, u6, u7, u8, u9, u10, u11, u12, u13, u14, u15, u16, u17, u18, u19, u20, u21, u22, u23⟩
  · skip
    replace u4 := u4.symm
    subst u4
    replace u5 := u5.symm
    subst u5
    replace u6 := u6.symm
    subst u6
    replace u7 := u7.symm
    subst u7
    replace u8 := u8.symm
    subst u8
    replace u9 := u9.symm
    subst u9
    replace u11 := u11.symm
    subst u11
    have ppG : ∃ cw ch : Nat, 3 ≤ yl ∧ (1 ≤ cw ∧ cw ≤ 3) ∧ (1 ≤ ch ∧ ch ≤ 3) ∧ yt 0 = nI cw ∧ yt 1 = nI ch ∧ coarP (yt 2) := ⟨cw, ch, a5.1, a0, a1, a2, a3, a4⟩
    rcases h2 with ⟨ns2, cw2, ch2, pix2Q, mdsQ, suQ, mnQ, su0Q, mn0Q, bkQ, lvQ, tdQ, abQ, lfQ, coQ, clQ, roQ, ttQ, brdQ, qbQ, nbkQ, bQ, g0, b0, b1, b2, b3, b4, b5, b6, fb0, fb1, fb2, fb3, rfl, rfl, v1, v2, v3, rfl, rfl, v6, rfl, v8, v9, rfl, rfl, rfl, v13, v14, v15, v16, v17, v18, v19, v20, rfl⟩ | ⟨ns2, g0, b0, rfl, rfl, v1, v2, v3, v4, v5, v6, v7, v8, v9, v10, v11, v12, v13, v14, v15, v16, v17, v18, v19, v20, v21⟩
    · skip
      replace v1 := v1.symm
      subst v1
      replace v2 := v2.symm
      subst v2
      replace v3 := v3.symm
      subst v3
      replace v6 := v6.symm
      subst v6
      replace v8 := v8.symm
      subst v8
      replace v9 := v9.symm
      subst v9
      replace v13 := v13.symm
      subst v13
      replace v14 := v14.symm
      subst v14
      replace v15 := v15.symm
      subst v15
      replace v16 := v16.symm
      subst v16
      replace v17 := v17.symm
      subst v17
      replace v18 := v18.symm
      subst v18
      replace v19 := v19.symm
      subst v19
      replace v20 := v20.symm
      subst v20
      have ppG2 : ∃ cw ch : Nat, 3 ≤ yl ∧ (1 ≤ cw ∧ cw ≤ 3) ∧ (1 ≤ ch ∧ ch ≤ 3) ∧ yt 0 = nI cw ∧ yt 1 = nI ch ∧ coarP (yt 2) := by have w := nI_inj (g0.symm.trans es) (by omega) (by omega); exact ⟨cw2, ch2, by omega, b4, b5, by rw [(hyt 0 (by omega)).1]; exact b1, by rw [(hyt 1 (by omega)).1]; exact b2, by rw [(hyt 2 (by omega)).1]; exact b3⟩
      have w := nI_inj (g0.symm.trans es) (by omega) (by omega)
      subst w
      have w1 := nI_inj (a2.symm.trans ((hyt 0 (by omega)).1.trans b1)) (by omega) (by omega)
      have w2 := nI_inj (a3.symm.trans ((hyt 1 (by omega)).1.trans b2)) (by omega) (by omega)
      subst w1
      subst w2
      obtain ⟨d1, d2, d3, d4, d5, d6, d7, d8⟩ := D_fin (px0 := px0) (lv := lvR) (md := mdr) (fun j hj => (hyt j hj).1) b0.1 b4.2 b5.2 (by omega) fb0.1 fb0.2 fb1 fb2.1 fb2.2
      exact ⟨rfl, fun _ => by rw [updL0, d2], inv_dec b4 b5 d1 d2 d3 d4 d5 d6 d7 fb3.1 fb3.2 hI⟩
    · skip
      replace v1 := v1.symm
      subst v1
      replace v2 := v2.symm
      subst v2
      replace v3 := v3.symm
      subst v3
      replace v4 := v4.symm
      subst v4
      replace v5 := v5.symm
      subst v5
      replace v6 := v6.symm
      subst v6
      replace v7 := v7.symm
      subst v7
      replace v8 := v8.symm
      subst v8
      replace v9 := v9.symm
      subst v9
      replace v10 := v10.symm
      subst v10
      replace v11 := v11.symm
      subst v11
      replace v12 := v12.symm
      subst v12
      replace v13 := v13.symm
      subst v13
      replace v14 := v14.symm
      subst v14
      replace v15 := v15.symm
      subst v15
      replace v16 := v16.symm
      subst v16
      replace v17 := v17.symm
      subst v17
      replace v18 := v18.symm
      subst v18
      replace v19 := v19.symm
      subst v19
      replace v20 := v20.symm
      subst v20
      replace v21 := v21.symm
      subst v21
      have nnG2 : ¬ (∃ cw ch : Nat, 3 ≤ yl ∧ (1 ≤ cw ∧ cw ≤ 3) ∧ (1 ≤ ch ∧ ch ≤ 3) ∧ yt 0 = nI cw ∧ yt 1 = nI ch ∧ coarP (yt 2)) := fun ⟨c1, c2, h0, h1, h2, h3, h4, h5⟩ => b0 (by rw [← g0, es, ← (hyt 0 (by omega)).1, ← (hyt 1 (by omega)).1, ← (hyt 2 (by omega)).1]; exact ⟨fun q => absurd ((nI_ltI (a := yl) (b := 3) (by omega) (by decide)).mp q) (by omega), cs_13 h3 h1, cs_13 h4 h2, h5⟩)
      first | exact absurd ppS nnS2 | exact absurd ppS2 nnS | exact absurd ppV nnV2 | exact absurd ppV2 nnV | exact absurd ppI nnI2 | exact absurd ppI2 nnI | exact absurd ppK nnK2 | exact absurd ppK2 nnK | exact absurd ppT nnT2 | exact absurd ppT2 nnT | exact absurd ppL nnL2 | exact absurd ppL2 nnL | exact absurd ppG nnG2 | exact absurd ppG2 nnG | exact absurd ppQ nnQ2 | exact absurd ppQ2 nnQ | exact absurd ppM nnM2 | exact absurd ppM2 nnM | exact absurd ppR nnR2 | exact absurd ppR2 nnR | exact absurd ppZ nnZ2 | exact absurd ppZ2 nnZ | exact absurd (ppR.symm.trans ppZ2) (by decide) | exact absurd (ppZ.symm.trans ppR2) (by decide)
  · skip
    replace u0 := u0.symm
    subst u0
    replace u1 := u1.symm
    subst u1
    replace u2 := u2.symm
    subst u2
    replace u3 := u3.symm
    subst u3
    replace u4 := u4.symm
    subst u4
    replace u5 := u5.symm
    subst u5
    replace u6 := u6.symm
    subst u6
    replace u7 := u7.symm
    subst u7
    replace u8 := u8.symm
    subst u8
    replace u9 := u9.symm
    subst u9
    replace u10 := u10.symm
    subst u10
    replace u11 := u11.symm
    subst u11
    replace u12 := u12.symm
    subst u12
    replace u13 := u13.symm
    subst u13
    replace u14 := u14.symm
    subst u14
    replace u15 := u15.symm
    subst u15
    replace u16 := u16.symm
    subst u16
    replace u17 := u17.symm
    subst u17
    replace u18 := u18.symm
    subst u18
    replace u19 := u19.symm
    subst u19
    replace u20 := u20.symm
    subst u20
    replace u21 := u21.symm
    subst u21
    replace u22 := u22.symm
    subst u22
    replace u23 := u23.symm
    subst u23
    have nnG : ¬ (∃ cw ch : Nat, 3 ≤ yl ∧ (1 ≤ cw ∧ cw ≤ 3) ∧ (1 ≤ ch ∧ ch ≤ 3) ∧ yt 0 = nI cw ∧ yt 1 = nI ch ∧ coarP (yt 2)) := fun ⟨c1, c2, h0, h1, h2, h3, h4, h5⟩ => a0 ⟨fun q => absurd ((nI_ltI (a := yl) (b := 3) (by omega) (by decide)).mp q) (by omega), cs_s4 h3 h1, cs_s4 h4 h2, h5⟩
    rcases h2 with ⟨ns2, cw2, ch2, pix2Q, mdsQ, suQ, mnQ, su0Q, mn0Q, bkQ, lvQ, tdQ, abQ, lfQ, coQ, clQ, roQ, ttQ, brdQ, qbQ, nbkQ, bQ, g0, b0, b1, b2, b3, b4, b5, b6, fb0, fb1, fb2, fb3, rfl, rfl, v1, v2, v3, rfl, rfl, v6, rfl, v8, v9, rfl, rfl, rfl, v13, v14, v15, v16, v17, v18, v19, v20, rfl⟩ | ⟨ns2, g0, b0, rfl, rfl, v1, v2, v3, v4, v5, v6, v7, v8, v9, v10, v11, v12, v13, v14, v15, v16, v17, v18, v19, v20, v21⟩
    · skip
      replace v1 := v1.symm
      subst v1
      replace v2 := v2.symm
      subst v2
      replace v3 := v3.symm
      subst v3
      replace v6 := v6.symm
      subst v6
      replace v8 := v8.symm
      subst v8
      replace v9 := v9.symm
      subst v9
      replace v13 := v13.symm
      subst v13
      replace v14 := v14.symm
      subst v14
      replace v15 := v15.symm
      subst v15
      replace v16 := v16.symm
      subst v16
      replace v17 := v17.symm
      subst v17
      replace v18 := v18.symm
      subst v18
      replace v19 := v19.symm
      subst v19
      replace v20 := v20.symm
      subst v20
      have ppG2 : ∃ cw ch : Nat, 3 ≤ yl ∧ (1 ≤ cw ∧ cw ≤ 3) ∧ (1 ≤ ch ∧ ch ≤ 3) ∧ yt 0 = nI cw ∧ yt 1 = nI ch ∧ coarP (yt 2) := by have w := nI_inj (g0.symm.trans es) (by omega) (by omega); exact ⟨cw2, ch2, by omega, b4, b5, by rw [(hyt 0 (by omega)).1]; exact b1, by rw [(hyt 1 (by omega)).1]; exact b2, by rw [(hyt 2 (by omega)).1]; exact b3⟩
      first | exact absurd ppS nnS2 | exact absurd ppS2 nnS | exact absurd ppV nnV2 | exact absurd ppV2 nnV | exact absurd ppI nnI2 | exact absurd ppI2 nnI | exact absurd ppK nnK2 | exact absurd ppK2 nnK | exact absurd ppT nnT2 | exact absurd ppT2 nnT | exact absurd ppL nnL2 | exact absurd ppL2 nnL | exact absurd ppG nnG2 | exact absurd ppG2 nnG | exact absurd ppQ nnQ2 | exact absurd ppQ2 nnQ | exact absurd ppM nnM2 | exact absurd ppM2 nnM | exact absurd ppR nnR2 | exact absurd ppR2 nnR | exact absurd ppZ nnZ2 | exact absurd ppZ2 nnZ | exact absurd (ppR.symm.trans ppZ2) (by decide) | exact absurd (ppZ.symm.trans ppR2) (by decide)
    · skip
      replace v1 := v1.symm
      subst v1
      replace v2 := v2.symm
      subst v2
      replace v3 := v3.symm
      subst v3
      replace v4 := v4.symm
      subst v4
      replace v5 := v5.symm
      subst v5
      replace v6 := v6.symm
      subst v6
      replace v7 := v7.symm
      subst v7
      replace v8 := v8.symm
      subst v8
      replace v9 := v9.symm
      subst v9
      replace v10 := v10.symm
      subst v10
      replace v11 := v11.symm
      subst v11
      replace v12 := v12.symm
      subst v12
      replace v13 := v13.symm
      subst v13
      replace v14 := v14.symm
      subst v14
      replace v15 := v15.symm
      subst v15
      replace v16 := v16.symm
      subst v16
      replace v17 := v17.symm
      subst v17
      replace v18 := v18.symm
      subst v18
      replace v19 := v19.symm
      subst v19
      replace v20 := v20.symm
      subst v20
      replace v21 := v21.symm
      subst v21
      have nnG2 : ¬ (∃ cw ch : Nat, 3 ≤ yl ∧ (1 ≤ cw ∧ cw ≤ 3) ∧ (1 ≤ ch ∧ ch ≤ 3) ∧ yt 0 = nI cw ∧ yt 1 = nI ch ∧ coarP (yt 2)) := fun ⟨c1, c2, h0, h1, h2, h3, h4, h5⟩ => b0 (by rw [← g0, es, ← (hyt 0 (by omega)).1, ← (hyt 1 (by omega)).1, ← (hyt 2 (by omega)).1]; exact ⟨fun q => absurd ((nI_ltI (a := yl) (b := 3) (by omega) (by decide)).mp q) (by omega), cs_13 h3 h1, cs_13 h4 h2, h5⟩)
      exact ⟨rfl, fun h => absurd h (by decide), hI⟩
