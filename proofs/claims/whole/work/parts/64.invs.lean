theorem McI.mono {mdc mds mds' wd wd' hg hg' thr thr' : Nat → Int32} {vkc : Int32} (H : McI mdc vkc mds wd hg thr) (h1 : wd' 1 = wd 1) (h2 : hg' 1 = hg 1) (h3 : thr' 1 = thr 1) (h4 : ∀ j, j < 9 → mds' j = mds j) : McI mdc vkc mds' wd' hg' thr' := by
  obtain ⟨n, g1, g2, g3, g4⟩ := H
  refine ⟨n, g1, g2, fun j hj => by rw [h4 j (by omega)]; exact g3 j hj, ?_⟩
  rw [h1, h2, h3]
  exact g4
theorem MrI.mono {mdr mds mds' : Nat → Int32} {vkr ibk mbk : Int32} (H : MrI mdr vkr ibk mds mbk) (h : ∀ j, j < 9 → mds' (9 + j) = mds (9 + j)) : MrI mdr vkr ibk mds' mbk := by
  obtain ⟨n, g1, g2, g3, g4, g5⟩ := H
  exact ⟨n, g1, g2, g3, g4, fun j hj => by rw [h j (by omega)]; exact g5 j hj⟩
theorem cp2_out {g f : Nat → Int32} {a b k j : Nat} (h : ¬ (a ≤ j ∧ j < a + k)) : cp2 g f a b k j = f j := if_neg h
theorem cp2_in {g f : Nat → Int32} {a b k j : Nat} (h : j < k) : cp2 g f a b k (a + j) = g (b + j) := by
  unfold cp2
  rw [if_pos (by omega)]
  congr 1
  omega
set_option maxHeartbeats 1000000 in
theorem inv_size {px : Nat → Int32} {vz : Int32} {vw : Int32} {vh : Int32} {pxc : Nat → Int32} {mdc : Nat → Int32} {vzc : Int32} {vwc : Int32} {vhc : Int32} {vkc : Int32} {pxr : Nat → Int32} {mdr : Nat → Int32} {vzr : Int32} {vwr : Int32} {vhr : Int32} {vkr : Int32} {yt : Nat → Int32} {yl : Nat} {ibc : Int32} {ilc : Int32} {igl : Int32} {ibk : Int32} {ifa : Int32} {ibd : Int32} {wd : Nat → Int32} {hg : Nat → Int32} {pix : Nat → Int32} {str : Nat → Int32} {mds : Nat → Int32} {thr : Nat → Int32} {isz : Int32} {ibl : Int32} {ile : Int32} {igr : Int32} {mbk : Int32} {ist : Int32} {ibr : Int32} {i1 i2 : Int32} {p9 : Nat → Int32} (s1 : sideP i1) (s2 : sideP i2) (hz : ∀ j, j < 144 → p9 j = 0) (hI : INV px vz vw vh pxc mdc vzc vwc vhc vkc pxr mdr vzr vwr vhr vkr yt yl ibc ilc igl ibk ifa ibd wd hg pix str mds thr isz ibl ile igr mbk ist ibr) : INV p9 1 i1 i2 pxc mdc vzc vwc vhc vkc pxr mdr vzr vwr vhr vkr yt yl ibc ilc igl ibk ifa ibd (upd wd 0 i1) (upd hg 0 i2) (flN pix 0 0 144) str mds thr isz ibl ile igr mbk ist ibr := by
  obtain ⟨⟨z0, t0, ⟨cw0, ch0, hcw0, hch0, ew, eh, mw, mh⟩, hpx⟩, A1, A2, B1, B2, ⟨es, hyl, hyt⟩, ⟨q1, q2, q3, q4, q5⟩, hPX⟩ := hI
  obtain ⟨c1, hc1, r1⟩ := side_nI s1
  obtain ⟨c2, hc2, r2⟩ := side_nI s2
  have ho : ∀ o, ¬ o = 0 → ∀ j, flN pix 0 0 144 (144 * o + j) = pix (144 * o + j) := fun o h j => if_neg (by omega)
  refine ⟨⟨by decide, t0, ⟨c1, c2, hc1, hc2, r1, r2, by rw [pk_us]; exact r1, by rw [pk_us]; exact r2⟩, fun j hj => ?_⟩, A1.mono (pk_un (by decide)) (pk_un (by decide)) rfl (fun j _ => ho 1 (by decide) j), A2.mono (pk_un (by decide)) (pk_un (by decide)) rfl (fun j _ => ho 2 (by decide) j), B1.mono (pk_un (by decide)) (pk_un (by decide)) rfl (fun _ _ => rfl), B2, ⟨es, hyl, hyt⟩, ⟨q1, q2, q3, q4, q5⟩, PX_flN hPX ⟨0, by decide, rfl⟩⟩
  rw [hz j hj]
  exact (if_pos (by omega)).symm
set_option maxHeartbeats 1000000 in
theorem inv_upd {px : Nat → Int32} {vz : Int32} {vw : Int32} {vh : Int32} {pxc : Nat → Int32} {mdc : Nat → Int32} {vzc : Int32} {vwc : Int32} {vhc : Int32} {vkc : Int32} {pxr : Nat → Int32} {mdr : Nat → Int32} {vzr : Int32} {vwr : Int32} {vhr : Int32} {vkr : Int32} {yt : Nat → Int32} {yl : Nat} {ibc : Int32} {ilc : Int32} {igl : Int32} {ibk : Int32} {ifa : Int32} {ibd : Int32} {wd : Nat → Int32} {hg : Nat → Int32} {pix : Nat → Int32} {str : Nat → Int32} {mds : Nat → Int32} {thr : Nat → Int32} {isz : Int32} {ibl : Int32} {ile : Int32} {igr : Int32} {mbk : Int32} {ist : Int32} {ibr : Int32} {j9 : Nat} {v9 : Int32} (hj : j9 < 144) (hv : sm v9) (hI : INV px vz vw vh pxc mdc vzc vwc vhc vkc pxr mdr vzr vwr vhr vkr yt yl ibc ilc igl ibk ifa ibd wd hg pix str mds thr isz ibl ile igr mbk ist ibr) : INV (upd px j9 v9) vz vw vh pxc mdc vzc vwc vhc vkc pxr mdr vzr vwr vhr vkr yt yl ibc ilc igl ibk ifa ibd wd hg (upd pix j9 v9) str mds thr isz ibl ile igr mbk ist ibr := by
  obtain ⟨⟨z0, t0, ⟨cw0, ch0, hcw0, hch0, ew, eh, mw, mh⟩, hpx⟩, A1, A2, B1, B2, ⟨es, hyl, hyt⟩, ⟨q1, q2, q3, q4, q5⟩, hPX⟩ := hI
  refine ⟨⟨z0, t0, ⟨cw0, ch0, hcw0, hch0, ew, eh, mw, mh⟩, fun j h => ?_⟩, A1.mono rfl rfl rfl (fun j h => pk_un (by omega)), A2.mono rfl rfl rfl (fun j h => pk_un (by omega)), B1, B2, ⟨es, hyl, hyt⟩, ⟨q1, q2, q3, q4, q5⟩, fun j h => ?_⟩
  · by_cases e : j = j9
    · subst e; rw [pk_us, pk_us]
    · rw [pk_un e, pk_un e]; exact hpx j h
  · by_cases e : j = j9
    · subst e; rw [pk_us]; exact hv
    · rw [pk_un e]; exact hPX j h
set_option maxHeartbeats 1000000 in
theorem inv_fill {px : Nat → Int32} {vz : Int32} {vw : Int32} {vh : Int32} {pxc : Nat → Int32} {mdc : Nat → Int32} {vzc : Int32} {vwc : Int32} {vhc : Int32} {vkc : Int32} {pxr : Nat → Int32} {mdr : Nat → Int32} {vzr : Int32} {vwr : Int32} {vhr : Int32} {vkr : Int32} {yt : Nat → Int32} {yl : Nat} {ibc : Int32} {ilc : Int32} {igl : Int32} {ibk : Int32} {ifa : Int32} {ibd : Int32} {wd : Nat → Int32} {hg : Nat → Int32} {pix : Nat → Int32} {str : Nat → Int32} {mds : Nat → Int32} {thr : Nat → Int32} {isz : Int32} {ibl : Int32} {ile : Int32} {igr : Int32} {mbk : Int32} {ist : Int32} {ibr : Int32} {x9 y9 w9 n9 m9 : Nat} {v9 g9 h9 : Int32}  (hI : INV px vz vw vh pxc mdc vzc vwc vhc vkc pxr mdr vzr vwr vhr vkr yt yl ibc ilc igl ibk ifa ibd wd hg pix str mds thr isz ibl ile igr mbk ist ibr) : INV (flF px x9 y9 v9 g9 h9 w9 n9 m9) vz vw vh pxc mdc vzc vwc vhc vkc pxr mdr vzr vwr vhr vkr yt yl ibc ilc igl ibk ifa ibd wd hg (flF pix x9 y9 v9 g9 h9 w9 n9 m9) str mds thr isz ibl ile igr mbk ist ibr := by
  obtain ⟨⟨z0, t0, ⟨cw0, ch0, hcw0, hch0, ew, eh, mw, mh⟩, hpx⟩, A1, A2, B1, B2, ⟨es, hyl, hyt⟩, ⟨q1, q2, q3, q4, q5⟩, hPX⟩ := hI
  refine ⟨⟨z0, t0, ⟨cw0, ch0, hcw0, hch0, ew, eh, mw, mh⟩, fun j h => ?_⟩, A1.mono rfl rfl rfl (fun j h => if_neg (by omega)), A2.mono rfl rfl rfl (fun j h => if_neg (by omega)), B1, B2, ⟨es, hyl, hyt⟩, ⟨q1, q2, q3, q4, q5⟩, fun j h => ?_⟩
  · unfold flF
    split
    · rfl
    · exact hpx j h
  · unfold flF
    split
    · exact sm_clip _
    · exact hPX j h
set_option maxHeartbeats 1000000 in
theorem inv_byte {px : Nat → Int32} {vz : Int32} {vw : Int32} {vh : Int32} {pxc : Nat → Int32} {mdc : Nat → Int32} {vzc : Int32} {vwc : Int32} {vhc : Int32} {vkc : Int32} {pxr : Nat → Int32} {mdr : Nat → Int32} {vzr : Int32} {vwr : Int32} {vhr : Int32} {vkr : Int32} {yt : Nat → Int32} {yl : Nat} {ibc : Int32} {ilc : Int32} {igl : Int32} {ibk : Int32} {ifa : Int32} {ibd : Int32} {wd : Nat → Int32} {hg : Nat → Int32} {pix : Nat → Int32} {str : Nat → Int32} {mds : Nat → Int32} {thr : Nat → Int32} {isz : Int32} {ibl : Int32} {ile : Int32} {igr : Int32} {mbk : Int32} {ist : Int32} {ibr : Int32} {k9 ns2 : Nat} {v9 : Int32} (hk : k9 < yl) (hv : sm v9) (g1 : isz = nI ns2) (hI : INV px vz vw vh pxc mdc vzc vwc vhc vkc pxr mdr vzr vwr vhr vkr yt yl ibc ilc igl ibk ifa ibd wd hg pix str mds thr isz ibl ile igr mbk ist ibr) : INV px vz vw vh pxc mdc vzc vwc vhc vkc pxr mdr vzr vwr vhr vkr (upd yt k9 v9) yl ibc ilc igl ibk ifa ibd wd hg pix (upd str k9 v9) mds thr (nI ns2) ibl ile igr mbk ist ibr := by
  obtain ⟨⟨z0, t0, ⟨cw0, ch0, hcw0, hch0, ew, eh, mw, mh⟩, hpx⟩, A1, A2, B1, B2, ⟨es, hyl, hyt⟩, ⟨q1, q2, q3, q4, q5⟩, hPX⟩ := hI
  refine ⟨⟨z0, t0, ⟨cw0, ch0, hcw0, hch0, ew, eh, mw, mh⟩, hpx⟩, A1, A2, B1, B2, ⟨g1.symm.trans es, hyl, fun j h => ?_⟩, ⟨q1, q2, q3, q4, q5⟩, hPX⟩
  by_cases e : j = k9
  · subst e; rw [pk_us, pk_us]; exact ⟨rfl, hv⟩
  · rw [pk_un e, pk_un e]; exact hyt j h
set_option maxHeartbeats 1000000 in
theorem inv_more {px : Nat → Int32} {vz : Int32} {vw : Int32} {vh : Int32} {pxc : Nat → Int32} {mdc : Nat → Int32} {vzc : Int32} {vwc : Int32} {vhc : Int32} {vkc : Int32} {pxr : Nat → Int32} {mdr : Nat → Int32} {vzr : Int32} {vwr : Int32} {vhr : Int32} {vkr : Int32} {yt : Nat → Int32} {yl : Nat} {ibc : Int32} {ilc : Int32} {igl : Int32} {ibk : Int32} {ifa : Int32} {ibd : Int32} {wd : Nat → Int32} {hg : Nat → Int32} {pix : Nat → Int32} {str : Nat → Int32} {mds : Nat → Int32} {thr : Nat → Int32} {isz : Int32} {ibl : Int32} {ile : Int32} {igr : Int32} {mbk : Int32} {ist : Int32} {ibr : Int32} {ns2 : Nat} {v9 : Int32} (hk : yl < 400) (hv : sm v9) (g1 : isz = nI ns2) (hns : ns2 < 400) (hI : INV px vz vw vh pxc mdc vzc vwc vhc vkc pxr mdr vzr vwr vhr vkr yt yl ibc ilc igl ibk ifa ibd wd hg pix str mds thr isz ibl ile igr mbk ist ibr) : INV px vz vw vh pxc mdc vzc vwc vhc vkc pxr mdr vzr vwr vhr vkr (upd yt yl v9) (yl + 1) ibc ilc igl ibk ifa ibd wd hg pix (upd str ns2 v9) mds thr (nI (ns2 + 1)) ibl ile igr mbk ist ibr := by
  obtain ⟨⟨z0, t0, ⟨cw0, ch0, hcw0, hch0, ew, eh, mw, mh⟩, hpx⟩, A1, A2, B1, B2, ⟨es, hyl, hyt⟩, ⟨q1, q2, q3, q4, q5⟩, hPX⟩ := hI
  have w : ns2 = yl := nI_inj (g1.symm.trans es) (by omega) (by omega)
  subst w
  refine ⟨⟨z0, t0, ⟨cw0, ch0, hcw0, hch0, ew, eh, mw, mh⟩, hpx⟩, A1, A2, B1, B2, ⟨rfl, by omega, fun j h => ?_⟩, ⟨q1, q2, q3, q4, q5⟩, hPX⟩
  by_cases e : j = ns2
  · subst e; rw [pk_us, pk_us]; exact ⟨rfl, hv⟩
  · rw [pk_un e, pk_un e]; exact hyt j (by omega)
set_option maxHeartbeats 1000000 in
theorem inv_cut {px : Nat → Int32} {vz : Int32} {vw : Int32} {vh : Int32} {pxc : Nat → Int32} {mdc : Nat → Int32} {vzc : Int32} {vwc : Int32} {vhc : Int32} {vkc : Int32} {pxr : Nat → Int32} {mdr : Nat → Int32} {vzr : Int32} {vwr : Int32} {vhr : Int32} {vkr : Int32} {yt : Nat → Int32} {yl : Nat} {ibc : Int32} {ilc : Int32} {igl : Int32} {ibk : Int32} {ifa : Int32} {ibd : Int32} {wd : Nat → Int32} {hg : Nat → Int32} {pix : Nat → Int32} {str : Nat → Int32} {mds : Nat → Int32} {thr : Nat → Int32} {isz : Int32} {ibl : Int32} {ile : Int32} {igr : Int32} {mbk : Int32} {ist : Int32} {ibr : Int32} {k9 : Nat} (hk : k9 ≤ yl) (hI : INV px vz vw vh pxc mdc vzc vwc vhc vkc pxr mdr vzr vwr vhr vkr yt yl ibc ilc igl ibk ifa ibd wd hg pix str mds thr isz ibl ile igr mbk ist ibr) : INV px vz vw vh pxc mdc vzc vwc vhc vkc pxr mdr vzr vwr vhr vkr yt k9 ibc ilc igl ibk ifa ibd wd hg pix str mds thr (nI k9) ibl ile igr mbk ist ibr := by
  obtain ⟨⟨z0, t0, ⟨cw0, ch0, hcw0, hch0, ew, eh, mw, mh⟩, hpx⟩, A1, A2, B1, B2, ⟨es, hyl, hyt⟩, ⟨q1, q2, q3, q4, q5⟩, hPX⟩ := hI
  exact ⟨⟨z0, t0, ⟨cw0, ch0, hcw0, hch0, ew, eh, mw, mh⟩, hpx⟩, A1, A2, B1, B2, ⟨rfl, by omega, fun j h => hyt j (by omega)⟩, ⟨q1, q2, q3, q4, q5⟩, hPX⟩
set_option maxHeartbeats 1000000 in
theorem inv_long {px : Nat → Int32} {vz : Int32} {vw : Int32} {vh : Int32} {pxc : Nat → Int32} {mdc : Nat → Int32} {vzc : Int32} {vwc : Int32} {vhc : Int32} {vkc : Int32} {pxr : Nat → Int32} {mdr : Nat → Int32} {vzr : Int32} {vwr : Int32} {vhr : Int32} {vkr : Int32} {yt : Nat → Int32} {yl : Nat} {ibc : Int32} {ilc : Int32} {igl : Int32} {ibk : Int32} {ifa : Int32} {ibd : Int32} {wd : Nat → Int32} {hg : Nat → Int32} {pix : Nat → Int32} {str : Nat → Int32} {mds : Nat → Int32} {thr : Nat → Int32} {isz : Int32} {ibl : Int32} {ile : Int32} {igr : Int32} {mbk : Int32} {ist : Int32} {ibr : Int32} {p2 : Nat → Int32} (s1 : ∀ j, j < 432 → p2 j = pix j) (hp : PX p2) (hI : INV px vz vw vh pxc mdc vzc vwc vhc vkc pxr mdr vzr vwr vhr vkr yt yl ibc ilc igl ibk ifa ibd wd hg pix str mds thr isz ibl ile igr mbk ist ibr) : INV px vz vw vh pxc mdc vzc vwc vhc vkc pxr mdr vzr vwr vhr vkr yt yl ibc ilc igl ibk ifa ibd (upd wd 3 (wd 0)) (upd hg 3 (hg 0)) p2 str mds thr isz ibl ile igr mbk ist ibr := by
  obtain ⟨⟨z0, t0, ⟨cw0, ch0, hcw0, hch0, ew, eh, mw, mh⟩, hpx⟩, A1, A2, B1, B2, ⟨es, hyl, hyt⟩, ⟨q1, q2, q3, q4, q5⟩, hPX⟩ := hI
  exact ⟨⟨z0, t0, ⟨cw0, ch0, hcw0, hch0, ew, eh, by rw [pk_un (by decide)]; exact mw, by rw [pk_un (by decide)]; exact mh⟩, fun j h => by rw [s1 j (by omega)]; exact hpx j h⟩, A1.mono (pk_un (by decide)) (pk_un (by decide)) rfl (fun j h => s1 _ (by omega)), A2.mono (pk_un (by decide)) (pk_un (by decide)) rfl (fun j h => s1 _ (by omega)), B1.mono (pk_un (by decide)) (pk_un (by decide)) rfl (fun _ _ => rfl), B2, ⟨es, hyl, hyt⟩, ⟨q1, q2, q3, q4, q5⟩, hp⟩
set_option maxHeartbeats 1000000 in
theorem inv_enc {px : Nat → Int32} {vz : Int32} {vw : Int32} {vh : Int32} {pxc : Nat → Int32} {mdc : Nat → Int32} {vzc : Int32} {vwc : Int32} {vhc : Int32} {vkc : Int32} {pxr : Nat → Int32} {mdr : Nat → Int32} {vzr : Int32} {vwr : Int32} {vhr : Int32} {vkr : Int32} {yt : Nat → Int32} {yl : Nat} {ibc : Int32} {ilc : Int32} {igl : Int32} {ibk : Int32} {ifa : Int32} {ibd : Int32} {wd : Nat → Int32} {hg : Nat → Int32} {pix : Nat → Int32} {str : Nat → Int32} {mds : Nat → Int32} {thr : Nat → Int32} {isz : Int32} {ibl : Int32} {ile : Int32} {igr : Int32} {mbk : Int32} {ist : Int32} {ibr : Int32} {cw ch nn nb9 : Nat} {pc9 mc9 y9 m1 m2 m3 p2 nmd9 lad9 : Nat → Int32} {la lb ga gb : Int32} (hcw : 1 ≤ cw ∧ cw ≤ 3) (hch : 1 ≤ ch ∧ ch ≤ 3) (b1 : wd 0 = nI (4 * cw)) (b2 : hg 0 = nI (4 * ch)) (fa2 : ∀ j, j < 144 → pc9 j = m1 j) (fa3 : ∀ j, j < 9 → mc9 j = m2 j) (fa4 : ∀ j, j < 400 → y9 j = m3 j) (s1 : ∀ j, j < 432 → p2 j = pix j) (s2 : ∀ j, seen cw (cw * ch) j → m1 j = oP p2 3 j) (s3 : ∀ j, j < cw * ch → m2 j = nmd9 j) (s4 : bits8 m3 lad9 nn) (s5 : nn = nb9) (s6 : la = lb) (s7 : ga = gb) (hsb : SB lad9 nb9) (hp : PX p2) (v1 : (nb9 + 7) / 8 ≤ 400) (hI : INV px vz vw vh pxc mdc vzc vwc vhc vkc pxr mdr vzr vwr vhr vkr yt yl ibc ilc igl ibk ifa ibd wd hg pix str mds thr isz ibl ile igr mbk ist ibr) : INV px vz vw vh pc9 mc9 1 (nI (4 * cw)) (nI (4 * ch)) (nI (cw * ch)) pxr mdr vzr vwr vhr vkr y9 ((nn + 7) / 8) (nI nn) la ga ibk ifa ibd (upd (upd wd 3 (wd 0)) 1 (wd 0)) (upd (upd hg 3 (hg 0)) 1 (hg 0)) (cp2 p2 p2 (144 * 1) 432 144) (cp2 lad9 str 0 0 ((nb9 + 7) / 8)) (cp2 nmd9 mds 0 0 (cw * ch)) (upd thr 1 1) (nI ((nb9 + 7) / 8)) (nI nb9) lb gb mbk ist ibr := by
  obtain ⟨⟨z0, t0, ⟨cw0, ch0, hcw0, hch0, ew, eh, mw, mh⟩, hpx⟩, A1, A2, B1, B2, ⟨es, hyl, hyt⟩, ⟨q1, q2, q3, q4, q5⟩, hPX⟩ := hI
  subst s5
  have h99 : cw * ch ≤ 3 * 3 := Nat.mul_le_mul hcw.2 hch.2
  refine ⟨⟨z0, by rw [pk_un (by decide)]; exact t0, ⟨cw0, ch0, hcw0, hch0, ew, eh, by rw [(pk_un (by decide)).trans (pk_un (by decide))]; exact mw, by rw [(pk_un (by decide)).trans (pk_un (by decide))]; exact mh⟩, fun j h => by rw [cp2_out (by omega), s1 j (by omega)]; exact hpx j h⟩, Or.inr ⟨by decide, by rw [pk_us]; decide, cw, ch, hcw, hch, rfl, rfl, by rw [pk_us]; exact b1, by rw [pk_us]; exact b2, fun x y hx hy => ?_⟩, A2.mono ((pk_un (by decide)).trans (pk_un (by decide))) ((pk_un (by decide)).trans (pk_un (by decide))) (pk_un (by decide)) (fun j h => by rw [cp2_out (by omega), s1 _ (by omega)]), ⟨cw * ch, by omega, rfl, fun j h => ?_, Or.inr ⟨by rw [pk_us]; decide, cw, ch, hcw.2, hch.2, by rw [pk_us]; exact b1, by rw [pk_us]; exact b2, rfl⟩⟩, B2.mono (fun j h => cp2_out (by omega)), ⟨rfl, v1, fun j h => ?_⟩, ⟨rfl, s6, s7, q4, q5⟩, PX_cp2 hp (by decide)⟩
  · rw [fa2 _ (by omega), s2 _ (seen_all hcw.2 hch.2 hx hy), cp2_in (by omega)]
    unfold oP
    congr 1
  · rw [fa3 j (by omega), s3 j h]
    have h7 := cp2_in (g := nmd9) (f := mds) (a := 0) (b := 0) (k := cw * ch) h
    rw [Nat.zero_add] at h7
    exact h7.symm
  · have h6 : y9 j = lad9 j := by rw [fa4 j (by omega)]; exact s4.1 j (by omega) h
    have h7 := cp2_in (g := lad9) (f := str) (a := 0) (b := 0) (k := (nn + 7) / 8) h
    rw [Nat.zero_add] at h7
    exact ⟨h6.trans h7.symm, by rw [h6]; exact hsb j h⟩
set_option maxHeartbeats 1000000 in
theorem inv_dec {px : Nat → Int32} {vz : Int32} {vw : Int32} {vh : Int32} {pxc : Nat → Int32} {mdc : Nat → Int32} {vzc : Int32} {vwc : Int32} {vhc : Int32} {vkc : Int32} {pxr : Nat → Int32} {mdr : Nat → Int32} {vzr : Int32} {vwr : Int32} {vhr : Int32} {vkr : Int32} {yt : Nat → Int32} {yl : Nat} {ibc : Int32} {ilc : Int32} {igl : Int32} {ibk : Int32} {ifa : Int32} {ibd : Int32} {wd : Nat → Int32} {hg : Nat → Int32} {pix : Nat → Int32} {str : Nat → Int32} {mds : Nat → Int32} {thr : Nat → Int32} {isz : Int32} {ibl : Int32} {ile : Int32} {igr : Int32} {mbk : Int32} {ist : Int32} {ibr : Int32} {cw ch rn nbk9 : Nat} {rp rm9 md9 p2 : Nat → Int32} {ra rb tt9 brd9 : Int32} (b4 : 1 ≤ cw ∧ cw ≤ 3) (b5 : 1 ≤ ch ∧ ch ≤ 3) (d1 : ra = tt9) (d2 : rn = nbk9) (d3 : rb = brd9) (d4 : ∀ j, seen cw (cw * ch) j → rp j = oP p2 3 j) (d5 : ∀ j, j < nbk9 → rm9 j = md9 (9 + j)) (d6 : ∀ j, j < 432 → p2 j = pix j) (d7 : ∀ j, j < 9 → md9 j = mds j) (hp : PX p2) (hn : nbk9 ≤ 9) (hI : INV px vz vw vh pxc mdc vzc vwc vhc vkc pxr mdr vzr vwr vhr vkr yt yl ibc ilc igl ibk ifa ibd wd hg pix str mds thr isz ibl ile igr mbk ist ibr) : INV px vz vw vh pxc mdc vzc vwc vhc vkc rp rm9 1 (nI (4 * cw)) (nI (4 * ch)) (nI rn) yt yl ibc ilc igl (nI rn) ra rb (upd (upd wd 3 (nI (4 * cw))) 2 (nI (4 * cw))) (upd (upd hg 3 (nI (4 * ch))) 2 (nI (4 * ch))) (cp2 p2 p2 (144 * 2) 432 144) str md9 (upd thr 2 1) isz ibl ile igr (nI nbk9) tt9 brd9 := by
  obtain ⟨⟨z0, t0, ⟨cw0, ch0, hcw0, hch0, ew, eh, mw, mh⟩, hpx⟩, A1, A2, B1, B2, ⟨es, hyl, hyt⟩, ⟨q1, q2, q3, q4, q5⟩, hPX⟩ := hI
  subst d2
  refine ⟨⟨z0, by rw [pk_un (by decide)]; exact t0, ⟨cw0, ch0, hcw0, hch0, ew, eh, by rw [(pk_un (by decide)).trans (pk_un (by decide))]; exact mw, by rw [(pk_un (by decide)).trans (pk_un (by decide))]; exact mh⟩, fun j h => by rw [cp2_out (by omega), d6 j (by omega)]; exact hpx j h⟩, A1.mono ((pk_un (by decide)).trans (pk_un (by decide))) ((pk_un (by decide)).trans (pk_un (by decide))) (pk_un (by decide)) (fun j h => by rw [cp2_out (by omega), d6 _ (by omega)]), Or.inr ⟨by decide, by rw [pk_us]; decide, cw, ch, b4, b5, rfl, rfl, by rw [pk_us], by rw [pk_us], fun x y hx hy => ?_⟩, B1.mono ((pk_un (by decide)).trans (pk_un (by decide))) ((pk_un (by decide)).trans (pk_un (by decide))) (pk_un (by decide)) d7, ⟨rn, hn, rfl, rfl, rfl, d5⟩, ⟨es, hyl, hyt⟩, ⟨q1, q2, q3, d1, d3⟩, PX_cp2 hp (by decide)⟩
  rw [d4 _ (seen_all b4.2 b5.2 hx hy), cp2_in (by omega)]
  unfold oP
  congr 1
theorem gt_d {px pix wd hg thr : Nat → Int32} {z w h i2 i3 k ith b : Int32} {o : Nat} {fou fouN : Nat → Int64} (H : PicI px z w h pix wd hg thr o)
    (hX : (∃ x y : Nat, i2 = nI x ∧ i3 = nI y ∧ ¬ z = 0 ∧ x < 12 ∧ y < 12 ∧ nI x < w ∧ nI y < h ∧ k = 0 ∧ fouN = vp_updL fou 0 (Int32.toInt64 (px (y * 12 + x)))) ∨ (z = 0 ∧ k = 2) ∨ (¬ z = 0 ∧ ¬ hasP w h i2 i3 ∧ k = 3))
    (hM : (∃ x y pw ph : Nat, i2 = nI x ∧ i3 = nI y ∧ ¬ thr o = 0 ∧ wd o = nI pw ∧ hg o = nI ph ∧ x < pw ∧ y < ph ∧ pw ≤ 12 ∧ ph ≤ 12 ∧ b = pix (144 * o + (y * 12 + x)) ∧ ith = 0) ∨ (thr o = 0 ∧ ith = 2) ∨ (¬ thr o = 0 ∧ ¬ ((¬ i2 < 0 ∧ ¬ (wd o) - 1 < i2) ∧ (¬ i3 < 0 ∧ ¬ (hg o) - 1 < i3)) ∧ ith = 3)) :
    ith = k ∧ (k = 0 → fouN 0 = Int32.toInt64 b) := by
  rcases H with ⟨hz, ht⟩ | ⟨hz, ht, cw, ch, g1, g2, g3, g4, g5, g6, g7⟩
  · rcases hX with ⟨x, y, -, -, n, -⟩ | ⟨-, rfl⟩ | ⟨n, -⟩
    · exact absurd hz n
    · rcases hM with ⟨x, y, pw, ph, -, -, n, -⟩ | ⟨-, rfl⟩ | ⟨n, -⟩
      · exact absurd ht n
      · exact ⟨rfl, fun q => absurd q (by decide)⟩
      · exact absurd ht n
    · exact absurd hz n
  · rcases hX with ⟨x, y, e1, e2, -, a1, a2, a3, a4, rfl, rfl⟩ | ⟨n, -⟩ | ⟨-, a1, rfl⟩
    · have hx : x < 4 * cw := (nI_ltI (by omega) (by omega)).mp (by rw [← g3]; exact a3)
      have hy : y < 4 * ch := (nI_ltI (by omega) (by omega)).mp (by rw [← g4]; exact a4)
      rcases hM with ⟨x2, y2, pw, ph, f1, f2, -, f3, f4, f5, f6, f7, f8, rfl, rfl⟩ | ⟨n, -⟩ | ⟨-, b1, -⟩
      · have w1 := nI_inj (e1.symm.trans f1) (by omega) (by omega)
        have w2 := nI_inj (e2.symm.trans f2) (by omega) (by omega)
        subst w1
        subst w2
        exact ⟨rfl, fun _ => by rw [updL0, g7 x y hx hy]⟩
      · exact absurd n ht
      · exact absurd (by rw [e1, e2]; exact cs_in2 g5 hx (by omega) g6 hy (by omega)) b1
    · exact absurd n hz
    · rcases hM with ⟨x2, y2, pw, ph, f1, f2, -, f3, f4, f5, f6, f7, f8, -, -⟩ | ⟨n, -⟩ | ⟨-, b1, rfl⟩
      · have w1 := nI_inj (f3.symm.trans g5) (by omega) (by omega)
        have w2 := nI_inj (f4.symm.trans g6) (by omega) (by omega)
        exact absurd (by rw [f1, f2, g3, g4]; exact hasP_in (by omega) (by omega) (nI_lt (by omega) (by omega)) (nI_lt (by omega) (by omega))) a1
      · exact absurd n ht
      · exact ⟨rfl, fun q => absurd q (by decide)⟩
theorem apX_cg {f g f' g' : Nat → Int32} {y : Nat} : ∀ n, (∀ x, x < n → f (y * 12 + x) = f' (y * 12 + x) ∧ g (y * 12 + x) = g' (y * 12 + x)) → apX f g y n = apX f' g' y n
  | 0, _ => rfl
  | n + 1, h => by
    rw [apX, apX, apX_cg n (fun x hx => h x (by omega)), (h n (by omega)).1, (h n (by omega)).2]
theorem apY_cg {f g f' g' : Nat → Int32} {W : Nat} : ∀ n, (∀ x y, x < W → y < n → f (y * 12 + x) = f' (y * 12 + x) ∧ g (y * 12 + x) = g' (y * 12 + x)) → apY f g W n = apY f' g' W n
  | 0, _ => rfl
  | n + 1, h => by
    rw [apY, apY, apY_cg n (fun x y hx hy => h x y hx (by omega)), apX_cg W (fun x hx => h x n hx (by omega))]
theorem ap_d {px1 px2 pix wd hg thr : Nat → Int32} {z1 w1 h1 z2 w2 h2 k ith : Int32} {b : UInt64} {o1 o2 : Nat} {fou fouN : Nat → UInt64} (H1 : PicI px1 z1 w1 h1 pix wd hg thr o1) (H2 : PicI px2 z2 w2 h2 pix wd hg thr o2)
    (hX : (∃ pw ph : Nat, w1 = nI pw ∧ h1 = nI ph ∧ ¬ z1 = 0 ∧ ¬ z2 = 0 ∧ w2 = nI pw ∧ h2 = nI ph ∧ pw ≤ 12 ∧ ph ≤ 12 ∧ k = 0 ∧ fouN = vf_upd fou 0 (FP.ddiv (FP.i2d (apY px1 px2 pw ph)) (FP.i2d (nI (pw * ph))))) ∨ (¬ (¬ z1 = 0 ∧ ¬ z2 = 0) ∧ k = 2) ∨ (¬ z1 = 0 ∧ ¬ z2 = 0 ∧ ¬ (w1 = w2 ∧ h1 = h2) ∧ k = 3))
    (hM : (∃ pw ph : Nat, ¬ thr o1 = 0 ∧ ¬ thr o2 = 0 ∧ wd o1 = wd o2 ∧ hg o1 = hg o2 ∧ wd o1 = nI pw ∧ hg o1 = nI ph ∧ pw ≤ 12 ∧ ph ≤ 12 ∧ b = FP.ddiv (FP.i2d (apY (oP pix o1) (oP pix o2) pw ph)) (FP.i2d (nI (pw * ph))) ∧ ith = 0) ∨ ((thr o1 = 0 ∨ thr o2 = 0) ∧ ith = 2) ∨ (¬ thr o1 = 0 ∧ ¬ thr o2 = 0 ∧ ¬ (wd o1 = wd o2 ∧ hg o1 = hg o2) ∧ ith = 3)) :
    ith = k ∧ (k = 0 → fouN 0 = b) := by
  have key : (¬ z1 = 0 ∧ ¬ z2 = 0) ↔ (¬ thr o1 = 0 ∧ ¬ thr o2 = 0) := by
    rcases H1 with ⟨a, b⟩ | ⟨a, b, -⟩ <;> rcases H2 with ⟨c, d⟩ | ⟨c, d, -⟩ <;> simp [a, b, c, d]
  by_cases hm : ¬ z1 = 0 ∧ ¬ z2 = 0
  · have ht := key.mp hm
    rcases H1 with ⟨a, -⟩ | ⟨-, -, cw, ch, g1, g2, g3, g4, g5, g6, g7⟩
    · exact absurd a hm.1
    rcases H2 with ⟨a, -⟩ | ⟨-, -, cx, cy, f1, f2, f3, f4, f5, f6, f7⟩
    · exact absurd a hm.2
    have hsz : (w1 = w2 ∧ h1 = h2) ↔ (wd o1 = wd o2 ∧ hg o1 = hg o2) := by rw [g3, g4, f3, f4, g5, g6, f5, f6]
    rcases hX with ⟨pw, ph, e1, e2, -, -, e3, e4, e5, e6, rfl, rfl⟩ | ⟨n, -⟩ | ⟨-, -, n, rfl⟩
    · rcases hM with ⟨qw, qh, -, -, -, -, d1, d2, d3, d4, rfl, rfl⟩ | ⟨n, -⟩ | ⟨-, -, n, -⟩
      · have u1 := nI_inj (e1.symm.trans g3) (by omega) (by omega)
        have u2 := nI_inj (e2.symm.trans g4) (by omega) (by omega)
        have u3 := nI_inj (e3.symm.trans f3) (by omega) (by omega)
        have u4 := nI_inj (e4.symm.trans f4) (by omega) (by omega)
        have u5 := nI_inj (d1.symm.trans g5) (by omega) (by omega)
        have u6 := nI_inj (d2.symm.trans g6) (by omega) (by omega)
        have u7 : qw = pw := by omega
        have u8 : qh = ph := by omega
        subst u7
        subst u8
        refine ⟨rfl, fun _ => ?_⟩
        rw [updD0, apY_cg (f' := oP pix o1) (g' := oP pix o2) qh (fun x y hx hy => ⟨g7 x y (by omega) (by omega), f7 x y (by omega) (by omega)⟩)]
      · exact (n.elim ht.1 ht.2).elim
      · exact absurd (hsz.mp ⟨e1.trans e3.symm, e2.trans e4.symm⟩) n
    · exact absurd hm n
    · rcases hM with ⟨qw, qh, -, -, d1, d2, -⟩ | ⟨n2, -⟩ | ⟨-, -, -, rfl⟩
      · exact absurd (hsz.mpr ⟨d1, d2⟩) n
      · exact (n2.elim ht.1 ht.2).elim
      · exact ⟨rfl, fun q => absurd q (by decide)⟩
  · have ht := fun q => hm (key.mpr q)
    rcases hX with ⟨pw, ph, -, -, a, b, -⟩ | ⟨-, rfl⟩ | ⟨a, b, -⟩
    · exact absurd ⟨a, b⟩ hm
    · rcases hM with ⟨qw, qh, a, b, -⟩ | ⟨-, rfl⟩ | ⟨a, b, -⟩
      · exact absurd ⟨a, b⟩ ht
      · exact ⟨rfl, fun q => absurd q (by decide)⟩
      · exact absurd ⟨a, b⟩ ht
    · exact absurd ⟨a, b⟩ hm
theorem m1_ge {a : Int32} (h1 : ¬ a < -1) (h2 : ¬ a = -1) : ¬ a < 0 := by
  intro h3
  rw [Int32.lt_iff_toInt_lt] at h1 h3
  have e1 : (-1 : Int32).toInt = -1 := by decide
  have e2 : (0 : Int32).toInt = 0 := by decide
  exact h2 (Int32.toInt_inj.mp (by omega))
