set_option maxHeartbeats 2000000 in
theorem p_encode {px : Nat → Int32} {vz : Int32} {vw : Int32} {vh : Int32} {pxc : Nat → Int32} {mdc : Nat → Int32} {vzc : Int32} {vwc : Int32} {vhc : Int32} {vkc : Int32} {pxr : Nat → Int32} {mdr : Nat → Int32} {vzr : Int32} {vwr : Int32} {vhr : Int32} {vkr : Int32} {yt : Nat → Int32} {yl : Nat} {ibc : Int32} {ilc : Int32} {igl : Int32} {ibk : Int32} {ifa : Int32} {ibd : Int32} {wd : Nat → Int32} {hg : Nat → Int32} {pix : Nat → Int32} {str : Nat → Int32} {mds : Nat → Int32} {thr : Nat → Int32} {isz : Int32} {ibl : Int32} {ile : Int32} {igr : Int32} {mbk : Int32} {ist : Int32} {ibr : Int32} {nz : Int32} {gr : Int32} {vzd : Int32} {vwd : Int32} {vhd : Int32} {vkd : Int32} {pxd : Nat → Int32} {mdd : Nat → Int32} {nb : Nat} {bt : Nat → Int32} {vr : Int32} {vc : Int32} {vcr : Int32} {ab : Nat → Int32} {lf : Nat → Int32} {fo : Nat → Int32} {lv : Nat → Int32} {wk : Nat → Int32} {vs : Int32} {vn : Int32} {vs2 : Int32} {vn2 : Int32} {fou : Nat → Int64} {i1 : Int32} {icoM : Int32} {iclM : Int32} {irwM : Int32} {ibiM : Int32} {ladM : Nat → Int32} {bkM : Nat → Int32} {lvM : Nat → Int32} {tdM : Nat → Int32} {abM : Nat → Int32} {lfM : Nat → Int32} {nmdM : Nat → Int32} {suM : Nat → Int32} {mnM : Nat → Int32} {ibcN : Int32} {ilcN : Int32} {iglN : Int32} {nzN : Int32} {grN : Int32} {vzdN : Int32} {vwdN : Int32} {vhdN : Int32} {vkdN : Int32} {pxdN : Nat → Int32} {mddN : Nat → Int32} {nbN : Nat} {btN : Nat → Int32} {vrN : Int32} {vcN : Int32} {vcrN : Int32} {abN : Nat → Int32} {lfN : Nat → Int32} {foN : Nat → Int32} {lvN : Nat → Int32} {wkN : Nat → Int32} {vsN : Int32} {vnN : Int32} {vs2N : Int32} {vn2N : Int32} {vzcN : Int32} {vwcN : Int32} {vhcN : Int32} {vkcN : Int32} {pxcN : Nat → Int32} {mdcN : Nat → Int32} {ylN : Nat} {ytN : Nat → Int32} {fouN : Nat → Int64} {iszN : Int32} {ithN : Int32} {icoMN : Int32} {iclMN : Int32} {irwMN : Int32} {ibiMN : Int32} {iblN : Int32} {ileN : Int32} {igrN : Int32} {wdN : Nat → Int32} {hgN : Nat → Int32} {pixN : Nat → Int32} {strN : Nat → Int32} {ladMN : Nat → Int32} {bkMN : Nat → Int32} {lvMN : Nat → Int32} {tdMN : Nat → Int32} {abMN : Nat → Int32} {lfMN : Nat → Int32} {mdsN : Nat → Int32} {nmdMN : Nat → Int32} {suMN : Nat → Int32} {mnMN : Nat → Int32} {thrN : Nat → Int32} {k : Int32} {bb : Int32} (hI : INV px vz vw vh pxc mdc vzc vwc vhc vkc pxr mdr vzr vwr vhr vkr yt yl ibc ilc igl ibk ifa ibd wd hg pix str mds thr isz ibl ile igr mbk ist ibr) (h1 : rx_encode ibc ilc igl nz gr vzd vwd vhd vkd pxd mdd nb bt vr vc vcr ab lf fo lv wk vs vn vs2 vn2 vw vh px vzc vwc vhc vkc pxc mdc yl yt fou i1 ibcN ilcN iglN nzN grN vzdN vwdN vhdN vkdN pxdN mddN nbN btN vrN vcN vcrN abN lfN foN lvN wkN vsN vnN vs2N vn2N vzcN vwcN vhcN vkcN pxcN mdcN ylN ytN fouN k) (h2 : rm_encode isz icoM iclM irwM ibiM ibl ile igr wd hg pix str ladM bkM lvM tdM abM lfM mds nmdM suM mnM thr i1 iszN ithN icoMN iclMN irwMN ibiMN iblN ileN igrN wdN hgN pixN strN ladMN bkMN lvMN tdMN abMN lfMN mdsN nmdMN suMN mnMN thrN bb) : ithN = k ∧ (k = 0 → fouN 0 = Int32.toInt64 bb) ∧ INV px vz vw vh pxcN mdcN vzcN vwcN vhcN vkcN pxr mdr vzr vwr vhr vkr ytN ylN ibcN ilcN iglN ibk ifa ibd wdN hgN pixN strN mdsN thrN iszN iblN ileN igrN mbk ist ibr := by
  have hI0 := hI
  obtain ⟨⟨z0, t0, ⟨cw0, ch0, hcw0, hch0, ew, eh, mw, mh⟩, hpx⟩, A1, A2, B1, B2, ⟨es, hyl, hyt⟩, ⟨q1, q2, q3, q4, q5⟩, hPX⟩ := hI0
  unfold rx_encode at h1
  unfold rm_encode at h2
  rcases h1 with ⟨cw, ch, px0, bt0, ab', lf', fo', lv', wk', vr', vc', cr', pxc', mdc', yt', e0, e1, a0, a1, a2, a3, a4, fa0, fa1, fa2, fa3, fa4, rfl, rfl, rfl, rfl, rfl, rfl, rfl, rfl, rfl, rfl, rfl, rfl, rfl, rfl, u13, u14, u15, u16, u17, u18, u19, u20, rfl, rfl, rfl, rfl, rfl, rfl, rfl, rfl, u29, u30, rfl, u32, rfl⟩ | ⟨a0, rfl, u0, u1, u2, u3, u4, u5, u6, u7, u8, u9, u10, u11, u12, u13, u14, u15, u16, u17, u18, u19, u20, u21, u22, u23, u24, u25, u26, u27, u28, u29, u30, u31, u32, u33⟩ | ⟨cw, ch, px0, bt0, ab', lf', fo', lv', wk', vr', vc', cr', e0, e1, a0, a1, a2, a3, a4, fa0, fa1, rfl, u0, u1, u2, rfl, rfl, rfl, rfl, rfl, rfl, rfl, rfl, rfl, rfl, u13, u14, u15, u16, u17, u18, u19, u20, rfl, rfl, rfl, rfl, u25, u26, u27, u28, u29, u30, u31, u32, u33⟩
  · skip
    replace u13 := u13.symm
    subst u13
    replace u14 := u14.symm
    subst u14
    replace u15 := u15.symm
    subst u15
    replace u16 := u16.symm
    subst u16
    replace u17 := u17.symm
    subst u17
    replace u18 := u18.symm
    subst u18
    replace u19 := u19.symm
    subst u19
    replace u20 := u20.symm
    subst u20
    replace u29 := u29.symm
    subst u29
    replace u30 := u30.symm
    subst u30
    replace u32 := u32.symm
    subst u32
    have ppQ : coarP i1 := a3
    rcases h2 with ⟨cw2, ch2, wdQ, hgQ, pixQ, strQ, ladQ, bkQ, lvQ, tdQ, abQ, lfQ, mdsQ, nmdQ, suQ, mnQ, thrQ, pix2Q, su0Q, mn0Q, iszQ, ithQ, coQ, clQ, roQ, iblQ, ileQ, igrQ, l2Q, g2Q, rvQ, nbQ, b0, b1, b2, b3, b4, b5, fb0, fb1, fb2, fb3, kr2, v0, v1, v2, v3, v4, rfl, v6, v7, v8, v9, v10, v11, v12, v13, v14, v15, v16, v17, v18, v19, v20, v21, v22, v23⟩ | ⟨b0, rfl, v0, rfl, v2, v3, v4, v5, v6, v7, v8, v9, v10, v11, v12, v13, v14, v15, v16, v17, v18, v19, v20, v21, v22, v23⟩
    · skip
      replace kr2 := kr2.symm
      subst kr2
      replace v0 := v0.symm
      subst v0
      replace v1 := v1.symm
      subst v1
      replace v2 := v2.symm
      subst v2
      replace v3 := v3.symm
      subst v3
      replace v4 := v4.symm
      subst v4
      replace v6 := v6.symm
      subst v6
      replace v7 := v7.symm
      subst v7
      replace v8 := v8.symm
      subst v8
      replace v9 := v9.symm
      subst v9
      replace v10 := v10.symm
      subst v10
      replace v11 := v11.symm
      subst v11
      replace v12 := v12.symm
      subst v12
      replace v13 := v13.symm
      subst v13
      replace v14 := v14.symm
      subst v14
      replace v15 := v15.symm
      subst v15
      replace v16 := v16.symm
      subst v16
      replace v17 := v17.symm
      subst v17
      replace v18 := v18.symm
      subst v18
      replace v19 := v19.symm
      subst v19
      replace v20 := v20.symm
      subst v20
      replace v21 := v21.symm
      subst v21
      replace v22 := v22.symm
      subst v22
      replace v23 := v23.symm
      subst v23
      have ppQ2 : coarP i1 := b0
      have w1 := nI_inj (e0.symm.trans (ew.trans (mw.symm.trans b1))) (by omega) (by omega)
      have w2 := nI_inj (e1.symm.trans (eh.trans (mh.symm.trans b2))) (by omega) (by omega)
      have w3 : cw = cw2 := by omega
      have w4 : ch = ch2 := by omega
      have w5 := nI_inj (e0.symm.trans ew) (by omega) (by omega)
      have w6 := nI_inj (e1.symm.trans eh) (by omega) (by omega)
      subst w3
      subst w4
      have hs := Sim_all (po := px) a0 a1 a3 (fun j hj => by rw [hpx j hj]; unfold oP; congr 1; omega) (Sim_0 (px0 := px0) (md := mdd) (cw := cw) (ch := ch) (q := i1) hPX fa1 fb0.1 fb0.2) (cw * ch) (Nat.le_refl _) _ fb1
      have hsb := sb_ERel (st0 := (_, _, pwF i1 8 (pwF (nI ch) 8 (pwF (nI cw) 8 _ 0) (0 + 8)) (0 + 8 + 8), 24, _, _, 0, 0)) (sb_pwF 8 (sb_pwF 8 (sb_pwF 8 (fun i hi => absurd hi (by omega))))) _ _ fb1
      obtain ⟨s1, s2, s3, ⟨s4, s5, -⟩, s6, s7, -, -⟩ := hs
      have s5 : _ = nbQ := s5
      rcases fb3 with ⟨v1, rfl, rfl, rfl, rfl, rfl, rfl, rfl, rfl, rfl, rfl, rfl, rfl⟩ | ⟨v1, -⟩
      · exact ⟨rfl, fun _ => by rw [updL0, s5], inv_enc ⟨by omega, a0⟩ ⟨by omega, a1⟩ b1 b2 fa2 fa3 fa4 s1 s2 s3 s4 s5 s6 s7 hsb fb2.1 v1 hI⟩
      · exact absurd (by rw [← s5]; exact a4 _ _ fa0 fa1) v1
    · skip
      replace v0 := v0.symm
      subst v0
      replace v2 := v2.symm
      subst v2
      replace v3 := v3.symm
      subst v3
      replace v4 := v4.symm
      subst v4
      replace v5 := v5.symm
      subst v5
      replace v6 := v6.symm
      subst v6
      replace v7 := v7.symm
      subst v7
      replace v8 := v8.symm
      subst v8
      replace v9 := v9.symm
      subst v9
      replace v10 := v10.symm
      subst v10
      replace v11 := v11.symm
      subst v11
      replace v12 := v12.symm
      subst v12
      replace v13 := v13.symm
      subst v13
      replace v14 := v14.symm
      subst v14
      replace v15 := v15.symm
      subst v15
      replace v16 := v16.symm
      subst v16
      replace v17 := v17.symm
      subst v17
      replace v18 := v18.symm
      subst v18
      replace v19 := v19.symm
      subst v19
      replace v20 := v20.symm
      subst v20
      replace v21 := v21.symm
      subst v21
      replace v22 := v22.symm
      subst v22
      replace v23 := v23.symm
      subst v23
      have nnQ2 : ¬ (coarP i1) := b0
      first | exact absurd ppS nnS2 | exact absurd ppS2 nnS | exact absurd ppV nnV2 | exact absurd ppV2 nnV | exact absurd ppI nnI2 | exact absurd ppI2 nnI | exact absurd ppK nnK2 | exact absurd ppK2 nnK | exact absurd ppT nnT2 | exact absurd ppT2 nnT | exact absurd ppL nnL2 | exact absurd ppL2 nnL | exact absurd ppG nnG2 | exact absurd ppG2 nnG | exact absurd ppQ nnQ2 | exact absurd ppQ2 nnQ | exact absurd ppM nnM2 | exact absurd ppM2 nnM | exact absurd ppR nnR2 | exact absurd ppR2 nnR | exact absurd ppZ nnZ2 | exact absurd ppZ2 nnZ | exact absurd (ppR.symm.trans ppZ2) (by decide) | exact absurd (ppZ.symm.trans ppR2) (by decide)
  · skip
    replace u0 := u0.symm
    subst u0
    replace u1 := u1.symm
    subst u1
    replace u2 := u2.symm
    subst u2
    replace u3 := u3.symm
    subst u3
    replace u4 := u4.symm
    subst u4
    replace u5 := u5.symm
    subst u5
    replace u6 := u6.symm
    subst u6
    replace u7 := u7.symm
    subst u7
    replace u8 := u8.symm
    subst u8
    replace u9 := u9.symm
    subst u9
    replace u10 := u10.symm
    subst u10
    replace u11 := u11.symm
    subst u11
    replace u12 := u12.symm
    subst u12
    replace u13 := u13.symm
    subst u13
    replace u14 := u14.symm
    subst u14
    replace u15 := u15.symm
    subst u15
    replace u16 := u16.symm
    subst u16
    replace u17 := u17.symm
    subst u17
    replace u18 := u18.symm
    subst u18
    replace u19 := u19.symm
    subst u19
    replace u20 := u20.symm
    subst u20
    replace u21 := u21.symm
    subst u21
    replace u22 := u22.symm
    subst u22
    replace u23 := u23.symm
    subst u23
    replace u24 := u24.symm
    subst u24
    replace u25 := u25.symm
    subst u25
    replace u26 := u26.symm
    subst u26
    replace u27 := u27.symm
    subst u27
    replace u28 := u28.symm
    subst u28
    replace u29 := u29.symm
    subst u29
    replace u30 := u30.symm
    subst u30
    replace u31 := u31.symm
    subst u31
    replace u32 := u32.symm
    subst u32
    replace u33 := u33.symm
    subst u33
    have nnQ : ¬ (coarP i1) := a0
    rcases h2 with ⟨cw2, ch2, wdQ, hgQ, pixQ, strQ, ladQ, bkQ, lvQ, tdQ, abQ, lfQ, mdsQ, nmdQ, suQ, mnQ, thrQ, pix2Q, su0Q, mn0Q, iszQ, ithQ, coQ, clQ, roQ, iblQ, ileQ, igrQ, l2Q, g2Q, rvQ, nbQ, b0, b1, b2, b3, b4, b5, fb0, fb1, fb2, fb3, kr2, v0, v1, v2, v3, v4, rfl, v6, v7, v8, v9, v10, v11, v12, v13, v14, v15, v16, v17, v18, v19, v20, v21, v22, v23⟩ | ⟨b0, rfl, v0, rfl, v2, v3, v4, v5, v6, v7, v8, v9, v10, v11, v12, v13, v14, v15, v16, v17, v18, v19, v20, v21, v22, v23⟩
    · skip
      replace kr2 := kr2.symm
      subst kr2
      replace v0 := v0.symm
      subst v0
      replace v1 := v1.symm
      subst v1
      replace v2 := v2.symm
      subst v2
      replace v3 := v3.symm
      subst v3
      replace v4 := v4.symm
      subst v4
      replace v6 := v6.symm
      subst v6
      replace v7 := v7.symm
      subst v7
      replace v8 := v8.symm
      subst v8
      replace v9 := v9.symm
      subst v9
      replace v10 := v10.symm
      subst v10
      replace v11 := v11.symm
      subst v11
      replace v12 := v12.symm
      subst v12
      replace v13 := v13.symm
      subst v13
      replace v14 := v14.symm
      subst v14
      replace v15 := v15.symm
      subst v15
      replace v16 := v16.symm
      subst v16
      replace v17 := v17.symm
      subst v17
      replace v18 := v18.symm
      subst v18
      replace v19 := v19.symm
      subst v19
      replace v20 := v20.symm
      subst v20
      replace v21 := v21.symm
      subst v21
      replace v22 := v22.symm
      subst v22
      replace v23 := v23.symm
      subst v23
      have ppQ2 : coarP i1 := b0
      first | exact absurd ppS nnS2 | exact absurd ppS2 nnS | exact absurd ppV nnV2 | exact absurd ppV2 nnV | exact absurd ppI nnI2 | exact absurd ppI2 nnI | exact absurd ppK nnK2 | exact absurd ppK2 nnK | exact absurd ppT nnT2 | exact absurd ppT2 nnT | exact absurd ppL nnL2 | exact absurd ppL2 nnL | exact absurd ppG nnG2 | exact absurd ppG2 nnG | exact absurd ppQ nnQ2 | exact absurd ppQ2 nnQ | exact absurd ppM nnM2 | exact absurd ppM2 nnM | exact absurd ppR nnR2 | exact absurd ppR2 nnR | exact absurd ppZ nnZ2 | exact absurd ppZ2 nnZ | exact absurd (ppR.symm.trans ppZ2) (by decide) | exact absurd (ppZ.symm.trans ppR2) (by decide)
    · skip
      replace v0 := v0.symm
      subst v0
      replace v2 := v2.symm
      subst v2
      replace v3 := v3.symm
      subst v3
      replace v4 := v4.symm
      subst v4
      replace v5 := v5.symm
      subst v5
      replace v6 := v6.symm
      subst v6
      replace v7 := v7.symm
      subst v7
      replace v8 := v8.symm
      subst v8
      replace v9 := v9.symm
      subst v9
      replace v10 := v10.symm
      subst v10
      replace v11 := v11.symm
      subst v11
      replace v12 := v12.symm
      subst v12
      replace v13 := v13.symm
      subst v13
      replace v14 := v14.symm
      subst v14
      replace v15 := v15.symm
      subst v15
      replace v16 := v16.symm
      subst v16
      replace v17 := v17.symm
      subst v17
      replace v18 := v18.symm
      subst v18
      replace v19 := v19.symm
      subst v19
      replace v20 := v20.symm
      subst v20
      replace v21 := v21.symm
      subst v21
      replace v22 := v22.symm
      subst v22
      replace v23 := v23.symm
      subst v23
      have nnQ2 : ¬ (coarP i1) := b0
      exact ⟨rfl, fun h => absurd h (by decide), hI⟩
  · skip
    replace u0 := u0.symm
    subst u0
    replace u1 := u1.symm
    subst u1
    replace u2 := u2.symm
    subst u2
    replace u13 := u13.symm
    subst u13
    replace u14 := u14.symm
    subst u14
    replace u15 := u15.symm
    subst u15
    replace u16 := u16.symm
    subst u16
    replace u17 := u17.symm
    subst u17
    replace u18 := u18.symm
    subst u18
    replace u19 := u19.symm
    subst u19
    replace u20 := u20.symm
    subst u20
    replace u25 := u25.symm
    subst u25
    replace u26 := u26.symm
    subst u26
    replace u27 := u27.symm
    subst u27
    replace u28 := u28.symm
    subst u28
    replace u29 := u29.symm
    subst u29
    replace u30 := u30.symm
    subst u30
    replace u31 := u31.symm
    subst u31
    replace u32 := u32.symm
    subst u32
    replace u33 := u33.symm
    subst u33
    have ppQ : coarP i1 := a3
    rcases h2 with ⟨cw2, ch2, wdQ, hgQ, pixQ, strQ, ladQ, bkQ, lvQ, tdQ, abQ, lfQ, mdsQ, nmdQ, suQ, mnQ, thrQ, pix2Q, su0Q, mn0Q, iszQ, ithQ, coQ, clQ, roQ, iblQ, ileQ, igrQ, l2Q, g2Q, rvQ, nbQ, b0, b1, b2, b3, b4, b5, fb0, fb1, fb2, fb3, kr2, v0, v1, v2, v3, v4, rfl, v6, v7, v8, v9, v10, v11, v12, v13, v14, v15, v16, v17, v18, v19, v20, v21, v22, v23⟩ | ⟨b0, rfl, v0, rfl, v2, v3, v4, v5, v6, v7, v8, v9, v10, v11, v12, v13, v14, v15, v16, v17, v18, v19, v20, v21, v22, v23⟩
    · skip
      replace kr2 := kr2.symm
      subst kr2
      replace v0 := v0.symm
      subst v0
      replace v1 := v1.symm
      subst v1
      replace v2 := v2.symm
      subst v2
      replace v3 := v3.symm
      subst v3
      replace v4 := v4.symm
      subst v4
      replace v6 := v6.symm
      subst v6
      replace v7 := v7.symm
      subst v7
      replace v8 := v8.symm
      subst v8
      replace v9 := v9.symm
      subst v9
      replace v10 := v10.symm
      subst v10
      replace v11 := v11.symm
      subst v11
      replace v12 := v12.symm
      subst v12
      replace v13 := v13.symm
      subst v13
      replace v14 := v14.symm
      subst v14
      replace v15 := v15.symm
      subst v15
      replace v16 := v16.symm
      subst v16
      replace v17 := v17.symm
      subst v17
      replace v18 := v18.symm
      subst v18
      replace v19 := v19.symm
      subst v19
      replace v20 := v20.symm
      subst v20
      replace v21 := v21.symm
      subst v21
      replace v22 := v22.symm
      subst v22
      replace v23 := v23.symm
      subst v23
      have ppQ2 : coarP i1 := b0
      have w1 := nI_inj (e0.symm.trans (ew.trans (mw.symm.trans b1))) (by omega) (by omega)
      have w2 := nI_inj (e1.symm.trans (eh.trans (mh.symm.trans b2))) (by omega) (by omega)
      have w3 : cw = cw2 := by omega
      have w4 : ch = ch2 := by omega
      have w5 := nI_inj (e0.symm.trans ew) (by omega) (by omega)
      have w6 := nI_inj (e1.symm.trans eh) (by omega) (by omega)
      subst w3
      subst w4
      have hs := Sim_all (po := px) a0 a1 a3 (fun j hj => by rw [hpx j hj]; unfold oP; congr 1; omega) (Sim_0 (px0 := px0) (md := mdd) (cw := cw) (ch := ch) (q := i1) hPX fa1 fb0.1 fb0.2) (cw * ch) (Nat.le_refl _) _ fb1
      have hsb := sb_ERel (st0 := (_, _, pwF i1 8 (pwF (nI ch) 8 (pwF (nI cw) 8 _ 0) (0 + 8)) (0 + 8 + 8), 24, _, _, 0, 0)) (sb_pwF 8 (sb_pwF 8 (sb_pwF 8 (fun i hi => absurd hi (by omega))))) _ _ fb1
      obtain ⟨s1, s2, s3, ⟨s4, s5, -⟩, s6, s7, -, -⟩ := hs
      have s5 : _ = nbQ := s5
      rcases fb3 with ⟨v1, -⟩ | ⟨v1, rfl, rfl, rfl, rfl, rfl, rfl, rfl, rfl, rfl, rfl, rfl, rfl⟩
      · exact absurd (by rw [s5]; exact v1) (a4 _ _ fa0 fa1)
      · exact ⟨rfl, fun h => absurd h (by decide), inv_long s1 fb2.1 hI⟩
    · skip
      replace v0 := v0.symm
      subst v0
      replace v2 := v2.symm
      subst v2
      replace v3 := v3.symm
      subst v3
      replace v4 := v4.symm
      subst v4
      replace v5 := v5.symm
      subst v5
      replace v6 := v6.symm
      subst v6
      replace v7 := v7.symm
      subst v7
      replace v8 := v8.symm
      subst v8
      replace v9 := v9.symm
      subst v9
      replace v10 := v10.symm
      subst v10
      replace v11 := v11.symm
      subst v11
      replace v12 := v12.symm
      subst v12
      replace v13 := v13.symm
      subst v13
      replace v14 := v14.symm
      subst v14
      replace v15 := v15.symm
      subst v15
      replace v16 := v16.symm
      subst v16
      replace v17 := v17.symm
      subst v17
      replace v18 := v18.symm
      subst v18
      replace v19 := v19.symm
      subst v19
      replace v20 := v20.symm
      subst v20
      replace v21 := v21.symm
      subst v21
      replace v22 := v22.symm
      subst v22
      replace v23 := v23.symm
      subst v23
      have nnQ2 : ¬ (coarP i1) := b0
      first | exact absurd ppS nnS2 | exact absurd ppS2 nnS | exact absurd ppV nnV2 | exact absurd ppV2 nnV | exact absurd ppI nnI2 | exact absurd ppI2 nnI | exact absurd ppK nnK2 | exact absurd ppK2 nnK | exact absurd ppT nnT2 | exact absurd ppT2 nnT | exact absurd ppL nnL2 | exact absurd ppL2 nnL | exact absurd ppG nnG2 | exact absurd ppG2 nnG | exact absurd ppQ nnQ2 | exact absurd ppQ2 nnQ | exact absurd ppM nnM2 | exact absurd ppM2 nnM | exact absurd ppR nnR2 | exact absurd ppR2 nnR | exact absurd ppZ nnZ2 | exact absurd ppZ2 nnZ | exact absurd (ppR.symm.trans ppZ2) (by decide) | exact absurd (ppZ.symm.trans ppR2) (by decide)
