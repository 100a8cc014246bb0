theorem McI.mono {mdc mds mds' wd wd' hg hg' thr thr' : Nat → Int32} {vkc : Int32} (H : McI mdc vkc mds wd hg thr) (h1 : wd' 1 = wd 1) (h2 : hg' 1 = hg 1) (h3 : thr' 1 = thr 1) (h4 : ∀ j, j < 9 → mds' j = mds j) : McI mdc vkc mds' wd' hg' thr' := by
  obtain ⟨n, g1, g2, g3, g4⟩ := H
  refine ⟨n, g1, g2, fun j hj => by rw [h4 j (by omega)]; exact g3 j hj, ?_⟩
  rw [h1, h2, h3]
  exact g4
theorem MrI.mono {mdr mds mds' : Nat → Int32} {vkr ibk mbk : Int32} (H : MrI mdr vkr ibk mds mbk) (h : ∀ j, j < 9 → mds' (9 + j) = mds (9 + j)) : MrI mdr vkr ibk mds' mbk := by
  obtain ⟨n, g1, g2, g3, g4, g5⟩ := H
  exact ⟨n, g1, g2, g3, g4, fun j hj => by rw [h j (by omega)]; exact g5 j hj⟩
theorem cp2_out {g f : Nat → Int32} {a b k j : Nat} (h : ¬ (a ≤ j ∧ j < a + k)) : cp2 g f a b k j = f j := if_neg h
theorem cp2_in {g f : Nat → Int32} {a b k j : Nat} (h : j < k) : cp2 g f a b k (a + j) = g (b + j) := by
  unfold cp2
  rw [if_pos (by omega)]
  congr 1
  omega
set_option maxHeartbeats 1000000 in
theorem inv_size {px : Nat → Int32} {vz : Int32} {vw : Int32} {vh : Int32} {pxc : Nat → Int32} {mdc : Nat → Int32} {vzc : Int32} {vwc : Int32} {vhc : Int32} {vkc : Int32} {pxr : Nat → Int32} {mdr : Nat → Int32} {vzr : Int32} {vwr : Int32} {vhr : Int32} {vkr : Int32} {yt : Nat → Int32} {yl : Nat} {ibc : Int32} {ilc : Int32} {igl : Int32} {ibk : Int32} {ifa : Int32} {ibd : Int32} {wd : Nat → Int32} {hg : Nat → Int32} {pix : Nat → Int32} {str : Nat → Int32} {mds : Nat → Int32} {thr : Nat → Int32} {isz : Int32} {ibl : Int32} {ile : Int32} {igr : Int32} {mbk : Int32} {ist : Int32} {ibr : Int32} {i1 i2 : Int32} {p9 : Nat → Int32} (s1 : sideP i1) (s2 : sideP i2) (hz : ∀ j, j < 144 → p9 j = 0) (hI : INV px vz vw vh pxc mdc vzc vwc vhc vkc pxr mdr vzr vwr vhr vkr yt yl ibc ilc igl ibk ifa ibd wd hg pix str mds thr isz ibl ile igr mbk ist ibr) : INV p9 1 i1 i2 pxc mdc vzc vwc vhc vkc pxr mdr vzr vwr vhr vkr yt yl ibc ilc igl ibk ifa ibd (upd wd 0 i1) (upd hg 0 i2) (flN pix 0 0 144) str mds thr isz ibl ile igr mbk ist ibr := by
  obtain ⟨⟨z0, t0, ⟨cw0, ch0, hcw0, hch0, ew, eh, mw, mh⟩, hpx⟩, A1, A2, B1, B2, ⟨es, hyl, hyt⟩, ⟨q1, q2, q3, q4, q5⟩, hPX⟩ := hI
  obtain ⟨c1, hc1, r1⟩ := side_nI s1
  obtain ⟨c2, hc2, r2⟩ := side_nI s2
  have ho : ∀ o, ¬ o = 0 → ∀ j, flN pix 0 0 144 (144 * o + j) = pix (144 * o + j) := fun o h j => if_neg (by omega)
  refine ⟨⟨by decide, t0, ⟨c1, c2, hc1, hc2, r1, r2, by rw [pk_us]; exact r1, by rw [pk_us]; exact r2⟩, fun j hj => ?_⟩, A1.mono (pk_un (by decide)) (pk_un (by decide)) rfl (fun j _ => ho 1 (by decide) j), A2.mono (pk_un (by decide)) (pk_un (by decide)) rfl (fun j _ => ho 2 (by decide) j), B1.mono (pk_un (by decide)) (pk_un (by decide)) rfl (fun _ _ => rfl), B2, ⟨es, hyl, hyt⟩, ⟨q1, q2, q3, q4, q5⟩, PX_flN hPX ⟨0, by decide, rfl⟩⟩
  rw [hz j hj]
  exact (if_pos (by omega)).symm
set_option maxHeartbeats 1000000 in
theorem inv_upd {px : Nat → Int32} {vz : Int32} {vw : Int32} {vh : Int32} {pxc : Nat → Int32} {mdc : Nat → Int32} {vzc : Int32} {vwc : Int32} {vhc : Int32} {vkc : Int32} {pxr : Nat → Int32} {mdr : Nat → Int32} {vzr : Int32} {vwr : Int32} {vhr : Int32} {vkr : Int32} {yt : Nat → Int32} {yl : Nat} {ibc : Int32} {ilc : Int32} {igl : Int32} {ibk : Int32} {ifa : Int32} {ibd : Int32} {wd : Nat → Int32} {hg : Nat → Int32} {pix : Nat → Int32} {str : Nat → Int32} {mds : Nat → Int32} {thr : Nat → Int32} {isz : Int32} {ibl : Int32} {ile : Int32} {igr : Int32} {mbk : Int32} {ist : Int32} {ibr : Int32} {j9 : Nat} {v9 : Int32} (hj : j9 < 144) (hv : sm v9) (hI : INV px vz vw vh pxc mdc vzc vwc vhc vkc pxr mdr vzr vwr vhr vkr yt yl ibc ilc igl ibk ifa ibd wd hg pix str mds thr isz ibl ile igr mbk ist ibr) : INV (upd px j9 v9) vz vw vh pxc mdc vzc vwc vhc vkc pxr mdr vzr vwr vhr vkr yt yl ibc ilc igl ibk ifa ibd wd hg (upd pix j9 v9) str mds thr isz ibl ile igr mbk ist ibr := by
  obtain ⟨⟨z0, t0, ⟨cw0, ch0, hcw0, hch0, ew, eh, mw, mh⟩, hpx⟩, A1, A2, B1, B2, ⟨es, hyl, hyt⟩, ⟨q1, q2, q3, q4, q5⟩, hPX⟩ := hI
  refine ⟨⟨z0, t0, ⟨cw0, ch0, hcw0, hch0, ew, eh, mw, mh⟩, fun j h => ?_⟩, A1.mono rfl rfl rfl (fun j h => pk_un (by omega)), A2.mono rfl rfl rfl (fun j h => pk_un (by omega)), B1, B2, ⟨es, hyl, hyt⟩, ⟨q1, q2, q3, q4, q5⟩, fun j h => ?_⟩
  · by_cases e : j = j9
    · subst e; rw [pk_us, pk_us]
    · rw [pk_un e, pk_un e]; exact hpx j h
  · by_cases e : j = j9
    · subst e; rw [pk_us]; exact hv
    · rw [pk_un e]; exact hPX j h
set_option maxHeartbeats 1000000 in
theorem inv_fill {px : Nat → Int32} {vz : Int32} {vw : Int32} {vh : Int32} {pxc : Nat → Int32} {mdc : Nat → Int32} {vzc : Int32} {vwc : Int32} {vhc : Int32} {vkc : Int32} {pxr : Nat → Int32} {mdr : Nat → Int32} {vzr : Int32} {vwr : Int32} {vhr : Int32} {vkr : Int32} {yt : Nat → Int32} {yl : Nat} {ibc : Int32} {ilc : Int32} {igl : Int32} {ibk : Int32} {ifa : Int32} {ibd : Int32} {wd : Nat → Int32} {hg : Nat → Int32} {pix : Nat → Int32} {str : Nat → Int32} {mds : Nat → Int32} {thr : Nat → Int32} {isz : Int32} {ibl : Int32} {ile : Int32} {igr : Int32} {mbk : Int32} {ist : Int32} {ibr : Int32} {x9 y9 w9 n9 m9 : Nat} {v9 g9 h9 : Int32}  (hI : INV px vz vw vh pxc mdc vzc vwc vhc vkc pxr mdr vzr vwr vhr vkr yt yl ibc ilc igl ibk ifa ibd wd hg pix str mds thr isz ibl ile igr mbk ist ibr) : INV (flF px x9 y9 v9 g9 h9 w9 n9 m9) vz vw vh pxc mdc vzc vwc vhc vkc pxr mdr vzr vwr vhr vkr yt yl ibc ilc igl ibk ifa ibd wd hg (flF pix x9 y9 v9 g9 h9 w9 n9 m9) str mds thr isz ibl ile igr mbk ist ibr := by
  obtain ⟨⟨z0, t0, ⟨cw0, ch0, hcw0, hch0, ew, eh, mw, mh⟩, hpx⟩, A1, A2, B1, B2, ⟨es, hyl, hyt⟩, ⟨q1, q2, q3, q4, q5⟩, hPX⟩ := hI
  refine ⟨⟨z0, t0, ⟨cw0, ch0, hcw0, hch0, ew, eh, mw, mh⟩, fun j h => ?_⟩, A1.mono rfl rfl rfl (fun j h => if_neg (by omega)), A2.mono rfl rfl rfl (fun j h => if_neg (by omega)), B1, B2, ⟨es, hyl, hyt⟩, ⟨q1, q2, q3, q4, q5⟩, fun j h => ?_⟩
  · unfold flF
    split
    · rfl
    · exact hpx j h
  · unfold flF
    split
    · exact sm_clip _
    · exact hPX j h
set_option maxHeartbeats 1000000 in
theorem inv_byte {px : Nat → Int32} {vz : Int32} {vw : Int32} {vh : Int32} {pxc : Nat → Int32} {mdc : Nat → Int32} {vzc : Int32} {vwc : Int32} {vhc : Int32} {vkc : Int32} {pxr : Nat → Int32} {mdr : Nat → Int32} {vzr : Int32} {vwr : Int32} {vhr : Int32} {vkr : Int32} {yt : Nat → Int32} {yl : Nat} {ibc : Int32} {ilc : Int32} {igl : Int32} {ibk : Int32} {ifa : Int32} {ibd : Int32} {wd : Nat → Int32} {hg : Nat → Int32} {pix : Nat → Int32} {str : Nat → Int32} {mds : Nat → Int32} {thr : Nat → Int32} {isz : Int32} {ibl : Int32} {ile : Int32} {igr : Int32} {mbk : Int32} {ist : Int32} {ibr : Int32} {k9 ns2 : Nat} {v9 : Int32} (hk : k9 < yl) (hv : sm v9) (g1 : isz = nI ns2) (hI : INV px vz vw vh pxc mdc vzc vwc vhc vkc pxr mdr vzr vwr vhr vkr yt yl ibc ilc igl ibk ifa ibd wd hg pix str mds thr isz ibl ile igr mbk ist ibr) : INV px vz vw vh pxc mdc vzc vwc vhc vkc pxr mdr vzr vwr vhr vkr (upd yt k9 v9) yl ibc ilc igl ibk ifa ibd wd hg pix (upd str k9 v9) mds thr (nI ns2) ibl ile igr mbk ist ibr := by
  obtain ⟨⟨z0, t0, ⟨cw0, ch0, hcw0, hch0, ew, eh, mw, mh⟩, hpx⟩, A1, A2, B1, B2, ⟨es, hyl, hyt⟩, ⟨q1, q2, q3, q4, q5⟩, hPX⟩ := hI
  refine ⟨⟨z0, t0, ⟨cw0, ch0, hcw0, hch0, ew, eh, mw, mh⟩, hpx⟩, A1, A2, B1, B2, ⟨g1.symm.trans es, hyl, fun j h => ?_⟩, ⟨q1, q2, q3, q4, q5⟩, hPX⟩
  by_cases e : j = k9
  · subst e; rw [pk_us, pk_us]; exact ⟨rfl, hv⟩
  · rw [pk_un e, pk_un e]; exact hyt j h
set_option maxHeartbeats 1000000 in
theorem inv_more {px : Nat → Int32} {vz : Int32} {vw : Int32} {vh : Int32} {pxc : Nat → Int32} {mdc : Nat → Int32} {vzc : Int32} {vwc : Int32} {vhc : Int32} {vkc : Int32} {pxr : Nat → Int32} {mdr : Nat → Int32} {vzr : Int32} {vwr : Int32} {vhr : Int32} {vkr : Int32} {yt : Nat → Int32} {yl : Nat} {ibc : Int32} {ilc : Int32} {igl : Int32} {ibk : Int32} {ifa : Int32} {ibd : Int32} {wd : Nat → Int32} {hg : Nat → Int32} {pix : Nat → Int32} {str : Nat → Int32} {mds : Nat → Int32} {thr : Nat → Int32} {isz : Int32} {ibl : Int32} {ile : Int32} {igr : Int32} {mbk : Int32} {ist : Int32} {ibr : Int32} {ns2 : Nat} {v9 : Int32} (hk : yl < 400) (hv : sm v9) (g1 : isz = nI ns2) (hns : ns2 < 400) (hI : INV px vz vw vh pxc mdc vzc vwc vhc vkc pxr mdr vzr vwr vhr vkr yt yl ibc ilc igl ibk ifa ibd wd hg pix str mds thr isz ibl ile igr mbk ist ibr) : INV px vz vw vh pxc mdc vzc vwc vhc vkc pxr mdr vzr vwr vhr vkr (upd yt yl v9) (yl + 1) ibc ilc igl ibk ifa ibd wd hg pix (upd str ns2 v9) mds thr (nI (ns2 + 1)) ibl ile igr mbk ist ibr := by
  obtain ⟨⟨z0, t0, ⟨cw0, ch0, hcw0, hch0, ew, eh, mw, mh⟩, hpx⟩, A1, A2, B1, B2, ⟨es, hyl, hyt⟩, ⟨q1, q2, q3, q4, q5⟩, hPX⟩ := hI
  have w : ns2 = yl := nI_inj (g1.symm.trans es) (by omega) (by omega)
  subst w
  refine ⟨⟨z0, t0, ⟨cw0, ch0, hcw0, hch0, ew, eh, mw, mh⟩, hpx⟩, A1, A2, B1, B2, ⟨rfl, by omega, fun j h => ?_⟩, ⟨q1, q2, q3, q4, q5⟩, hPX⟩
  by_cases e : j = ns2
  · subst e; rw [pk_us, pk_us]; exact ⟨rfl, hv⟩
  · rw [pk_un e, pk_un e]; exact hyt j (by omega)
set_option maxHeartbeats 1000000 in
theorem inv_cut {px : Nat → Int32} {vz : Int32} {vw : Int32} {vh : Int32} {pxc : Nat → Int32} {mdc : Nat → Int32} {vzc : Int32} {vwc : Int32} {vhc : Int32} {vkc : Int32} {pxr : Nat → Int32} {mdr : Nat → Int32} {vzr : Int32} {vwr : Int32} {vhr : Int32} {vkr : Int32} {yt : Nat → Int32} {yl : Nat} {ibc : Int32} {ilc : Int32} {igl : Int32} {ibk : Int32} {ifa : Int32} {ibd : Int32} {wd : Nat → Int32} {hg : Nat → Int32} {pix : Nat → Int32} {str : Nat → Int32} {mds : Nat → Int32} {thr : Nat → Int32} {isz : Int32} {ibl : Int32} {ile : Int32} {igr : Int32} {mbk : Int32} {ist : Int32} {ibr : Int32} {k9 : Nat} (hk : k9 ≤ yl) (hI : INV px vz vw vh pxc mdc vzc vwc vhc vkc pxr mdr vzr vwr vhr vkr yt yl ibc ilc igl ibk ifa ibd wd hg pix str mds thr isz ibl ile igr mbk ist ibr) : INV px vz vw vh pxc mdc vzc vwc vhc vkc pxr mdr vzr vwr vhr vkr yt k9 ibc ilc igl ibk ifa ibd wd hg pix str mds thr (nI k9) ibl ile igr mbk ist ibr := by
  obtain ⟨⟨z0, t0, ⟨cw0, ch0, hcw0, hch0, ew, eh, mw, mh⟩, hpx⟩, A1, A2, B1, B2, ⟨es, hyl, hyt⟩, ⟨q1, q2, q3, q4, q5⟩, hPX⟩ := hI
  exact ⟨⟨z0, t0, ⟨cw0, ch0, hcw0, hch0, ew, eh, mw, mh⟩, hpx⟩, A1, A2, B1, B2, ⟨rfl, by omega, fun j h => hyt j (by omega)⟩, ⟨q1, q2, q3, q4, q5⟩, hPX⟩
set_option maxHeartbeats 1000000 in
theorem inv_long {px : Nat → Int32} {vz : Int32} {vw : Int32} {vh : Int32} {pxc : Nat → Int32} {mdc : Nat → Int32} {vzc : Int32} {vwc : Int32} {vhc : Int32} {vkc : Int32} {pxr : Nat → Int32} {mdr : Nat → Int32} {vzr : Int32} {vwr : Int32} {vhr : Int32} {vkr : Int32} {yt : Nat → Int32} {yl : Nat} {ibc : Int32} {ilc : Int32} {igl : Int32} {ibk : Int32} {ifa : Int32} {ibd : Int32} {wd : Nat → Int32} {hg : Nat → Int32} {pix : Nat → Int32} {str : Nat → Int32} {mds : Nat → Int32} {thr : Nat → Int32} {isz : Int32} {ibl : Int32} {ile : Int32} {igr : Int32} {mbk : Int32} {ist : Int32} {ibr : Int32} {p2 : Nat → Int32} (s1 : ∀ j, j < 432 → p2 j = pix j) (hp : PX p2) (hI : INV px vz vw vh pxc mdc vzc vwc vhc vkc pxr mdr vzr vwr vhr vkr yt yl ibc ilc igl ibk ifa ibd wd hg pix str mds thr isz ibl ile igr mbk ist ibr) : INV px vz vw vh pxc mdc vzc vwc vhc vkc pxr mdr vzr vwr vhr vkr yt yl ibc ilc igl ibk ifa ibd (upd wd 3 (wd 0)) (upd hg 3 (hg 0)) p2 str mds thr isz ibl ile igr mbk ist ibr := by
  obtain ⟨⟨z0, t0, ⟨cw0, ch0, hcw0, hch0, ew, eh, mw, mh⟩, hpx⟩, A1, A2, B1, B2, ⟨es, hyl, hyt⟩, ⟨q1, q2, q3, q4, q5⟩, hPX⟩ := hI
  exact ⟨⟨z0, t0, ⟨cw0, ch0, hcw0, hch0, ew, eh, by rw [pk_un (by decide)]; exact mw, by rw [pk_un (by decide)]; exact mh⟩, fun j h => by rw [s1 j (by omega)]; exact hpx j h⟩, A1.mono (pk_un (by decide)) (pk_un (by decide)) rfl (fun j h => s1 _ (by omega)), A2.mono (pk_un (by decide)) (pk_un (by decide)) rfl (fun j h => s1 _ (by omega)), B1.mono (pk_un (by decide)) (pk_un (by decide)) rfl (fun _ _ => rfl), B2, ⟨es, hyl, hyt⟩, ⟨q1, q2, q3, q4, q5⟩, hp⟩
set_option maxHeartbeats 1000000 in
theorem inv_enc {px : Nat → Int32} {vz : Int32} {vw : Int32} {vh : Int32} {pxc : Nat → Int32} {mdc : Nat → Int32} {vzc : Int32} {vwc : Int32} {vhc : Int32} {vkc : Int32} {pxr : Nat → Int32} {mdr : Nat → Int32} {vzr : Int32} {vwr : Int32} {vhr : Int32} {vkr : Int32} {yt : Nat → Int32} {yl : Nat} {ibc : Int32} {ilc : Int32} {igl : Int32} {ibk : Int32} {ifa : Int32} {ibd : Int32} {wd : Nat → Int32} {hg : Nat → Int32} {pix : Nat → Int32} {str : Nat → Int32} {mds : Nat → Int32} {thr : Nat → Int32} {isz : Int32} {ibl : Int32} {ile : Int32} {igr : Int32} {mbk : Int32} {ist : Int32} {ibr : Int32} {cw ch nn nb9 : Nat} {pc9 mc9 y9 m1 m2 m3 p2 nmd9 lad9 : Nat → Int32} {la lb ga gb : Int32} (hcw : 1 ≤ cw ∧ cw ≤ 3) (hch : 1 ≤ ch ∧ ch ≤ 3) (b1 : wd 0 = nI (4 * cw)) (b2 : hg 0 = nI (4 * ch)) (fa2 : ∀ j, j < 144 → pc9 j = m1 j) (fa3 : ∀ j, j < 9 → mc9 j = m2 j) (fa4 : ∀ j, j < 400 → y9 j = m3 j) (s1 : ∀ j, j < 432 → p2 j = pix j) (s2 : ∀ j, seen cw (cw * ch) j → m1 j = oP p2 3 j) (s3 : ∀ j, j < cw * ch → m2 j = nmd9 j) (s4 : bits8 m3 lad9 nn) (s5 : nn = nb9) (s6 : la = lb) (s7 : ga = gb) (hsb : SB lad9 nb9) (hp : PX p2) (v1 : (nb9 + 7) / 8 ≤ 400) (hI : INV px vz vw vh pxc mdc vzc vwc vhc vkc pxr mdr vzr vwr vhr vkr yt yl ibc ilc igl ibk ifa ibd wd hg pix str mds thr isz ibl ile igr mbk ist ibr) : INV px vz vw vh pc9 mc9 1 (nI (4 * cw)) (nI (4 * ch)) (nI (cw * ch)) pxr mdr vzr vwr vhr vkr y9 ((nn + 7) / 8) (nI nn) la ga ibk ifa ibd (upd (upd wd 3 (wd 0)) 1 (wd 0)) (upd (upd hg 3 (hg 0)) 1 (hg 0)) (cp2 p2 p2 (144 * 1) 432 144) (cp2 lad9 str 0 0 ((nb9 + 7) / 8)) (cp2 nmd9 mds 0 0 (cw * ch)) (upd thr 1 1) (nI ((nb9 + 7) / 8)) (nI nb9) lb gb mbk ist ibr := by
  obtain ⟨⟨z0, t0, ⟨cw0, ch0, hcw0, hch0, ew, eh, mw, mh⟩, hpx⟩, A1, A2, B1, B2, ⟨es, hyl, hyt⟩, ⟨q1, q2, q3, q4, q5⟩, hPX⟩ := hI
  subst s5
  have h99 : cw * ch ≤ 3 * 3 := Nat.mul_le_mul hcw.2 hch.2
  refine ⟨⟨z0, by rw [pk_un (by decide)]; exact t0, ⟨cw0, ch0, hcw0, hch0, ew, eh, by rw [(pk_un (by decide)).trans (pk_un (by decide))]; exact mw, by rw [(pk_un (by decide)).trans (pk_un (by decide))]; exact mh⟩, fun j h => by rw [cp2_out (by omega), s1 j (by omega)]; exact hpx j h⟩, Or.inr ⟨by decide, by rw [pk_us]; decide, cw, ch, hcw, hch, rfl, rfl, by rw [pk_us]; exact b1, by rw [pk_us]; exact b2, fun x y hx hy => ?_⟩, A2.mono ((pk_un (by decide)).trans (pk_un (by decide))) ((pk_un (by decide)).trans (pk_un (by decide))) (pk_un (by decide)) (fun j h => by rw [cp2_out (by omega), s1 _ (by omega)]), ⟨cw * ch, by omega, rfl, fun j h => ?_, Or.inr ⟨by rw [pk_us]; decide, cw, ch, hcw.2, hch.2, by rw [pk_us]; exact b1, by rw [pk_us]; exact b2, rfl⟩⟩, B2.mono (fun j h => cp2_out (by omega)), ⟨rfl, v1, fun j h => ?_⟩, ⟨rfl, s6, s7, q4, q5⟩, PX_cp2 hp (by decide)⟩
  · rw [fa2 _ (by omega), s2 _ (seen_all hcw.2 hch.2 hx hy), cp2_in (by omega)]
    unfold oP
    congr 1
  · rw [fa3 j (by omega), s3 j h]
    have h7 := cp2_in (g := nmd9) (f := mds) (a := 0) (b := 0) (k := cw * ch) h
    rw [Nat.zero_add] at h7
    exact h7.symm
  · have h6 : y9 j = lad9 j := by rw [fa4 j (by omega)]; exact s4.1 j (by omega) h
    have h7 := cp2_in (g := lad9) (f := str) (a := 0) (b := 0) (k := (nn + 7) / 8) h
    rw [Nat.zero_add] at h7
    exact ⟨h6.trans h7.symm, by rw [h6]; exact hsb j h⟩
set_option maxHeartbeats 1000000 in
theorem inv_dec {px : Nat → Int32} {vz : Int32} {vw : Int32} {vh : Int32} {pxc : Nat → Int32} {mdc : Nat → Int32} {vzc : Int32} {vwc : Int32} {vhc : Int32} {vkc : Int32} {pxr : Nat → Int32} {mdr : Nat → Int32} {vzr : Int32} {vwr : Int32} {vhr : Int32} {vkr : Int32} {yt : Nat → Int32} {yl : Nat} {ibc : Int32} {ilc : Int32} {igl : Int32} {ibk : Int32} {ifa : Int32} {ibd : Int32} {wd : Nat → Int32} {hg : Nat → Int32} {pix : Nat → Int32} {str : Nat → Int32} {mds : Nat → Int32} {thr : Nat → Int32} {isz : Int32} {ibl : Int32} {ile : Int32} {igr : Int32} {mbk : Int32} {ist : Int32} {ibr : Int32} {cw ch rn nbk9 : Nat} {rp rm9 md9 p2 : Nat → Int32} {ra rb tt9 brd9 : Int32} (b4 : 1 ≤ cw ∧ cw ≤ 3) (b5 : 1 ≤ ch ∧ ch ≤ 3) (d1 : ra = tt9) (d2 : rn = nbk9) (d3 : rb = brd9) (d4 : ∀ j, seen cw (cw * ch) j → rp j = oP p2 3 j) (d5 : ∀ j, j < nbk9 → rm9 j = md9 (9 + j)) (d6 : ∀ j, j < 432 → p2 j = pix j) (d7 : ∀ j, j < 9 → md9 j = mds j) (hp : PX p2) (hn : nbk9 ≤ 9) (hI : INV px vz vw vh pxc mdc vzc vwc vhc vkc pxr mdr vzr vwr vhr vkr yt yl ibc ilc igl ibk ifa ibd wd hg pix str mds thr isz ibl ile igr mbk ist ibr) : INV px vz vw vh pxc mdc vzc vwc vhc vkc rp rm9 1 (nI (4 * cw)) (nI (4 * ch)) (nI rn) yt yl ibc ilc igl (nI rn) ra rb (upd (upd wd 3 (nI (4 * cw))) 2 (nI (4 * cw))) (upd (upd hg 3 (nI (4 * ch))) 2 (nI (4 * ch))) (cp2 p2 p2 (144 * 2) 432 144) str md9 (upd thr 2 1) isz ibl ile igr (nI nbk9) tt9 brd9 := by
  obtain ⟨⟨z0, t0, ⟨cw0, ch0, hcw0, hch0, ew, eh, mw, mh⟩, hpx⟩, A1, A2, B1, B2, ⟨es, hyl, hyt⟩, ⟨q1, q2, q3, q4, q5⟩, hPX⟩ := hI
  subst d2
  refine ⟨⟨z0, by rw [pk_un (by decide)]; exact t0, ⟨cw0, ch0, hcw0, hch0, ew, eh, by rw [(pk_un (by decide)).trans (pk_un (by decide))]; exact mw, by rw [(pk_un (by decide)).trans (pk_un (by decide))]; exact mh⟩, fun j h => by rw [cp2_out (by omega), d6 j (by omega)]; exact hpx j h⟩, A1.mono ((pk_un (by decide)).trans (pk_un (by decide))) ((pk_un (by decide)).trans (pk_un (by decide))) (pk_un (by decide)) (fun j h => by rw [cp2_out (by omega), d6 _ (by omega)]), Or.inr ⟨by decide, by rw [pk_us]; decide, cw, ch, b4, b5, rfl, rfl, by rw [pk_us], by rw [pk_us], fun x y hx hy => ?_⟩, B1.mono ((pk_un (by decide)).trans (pk_un (by decide))) ((pk_un (by decide)).trans (pk_un (by decide))) (pk_un (by decide)) d7, ⟨rn, hn, rfl, rfl, rfl, d5⟩, ⟨es, hyl, hyt⟩, ⟨q1, q2, q3, d1, d3⟩, PX_cp2 hp (by decide)⟩
  rw [d4 _ (seen_all b4.2 b5.2 hx hy), cp2_in (by omega)]
  unfold oP
  congr 1
theorem gt_d {px pix wd hg thr : Nat → Int32} {z w h i2 i3 k ith b : Int32} {o : Nat} {fou fouN : Nat → Int64} (H : PicI px z w h pix wd hg thr o)
    (hX : (∃ x y : Nat, i2 = nI x ∧ i3 = nI y ∧ ¬ z = 0 ∧ x < 12 ∧ y < 12 ∧ nI x < w ∧ nI y < h ∧ k = 0 ∧ fouN = vp_updL fou 0 (Int32.toInt64 (px (y * 12 + x)))) ∨ (z = 0 ∧ k = 2) ∨ (¬ z = 0 ∧ ¬ hasP w h i2 i3 ∧ k = 3))
    (hM : (∃ x y pw ph : Nat, i2 = nI x ∧ i3 = nI y ∧ ¬ thr o = 0 ∧ wd o = nI pw ∧ hg o = nI ph ∧ x < pw ∧ y < ph ∧ pw ≤ 12 ∧ ph ≤ 12 ∧ b = pix (144 * o + (y * 12 + x)) ∧ ith = 0) ∨ (thr o = 0 ∧ ith = 2) ∨ (¬ thr o = 0 ∧ ¬ ((¬ i2 < 0 ∧ ¬ (wd o) - 1 < i2) ∧ (¬ i3 < 0 ∧ ¬ (hg o) - 1 < i3)) ∧ ith = 3)) :
    ith = k ∧ (k = 0 → fouN 0 = Int32.toInt64 b) := by
  rcases H with ⟨hz, ht⟩ | ⟨hz, ht, cw, ch, g1, g2, g3, g4, g5, g6, g7⟩
  · rcases hX with ⟨x, y, -, -, n, -⟩ | ⟨-, rfl⟩ | ⟨n, -⟩
    · exact absurd hz n
    · rcases hM with ⟨x, y, pw, ph, -, -, n, -⟩ | ⟨-, rfl⟩ | ⟨n, -⟩
      · exact absurd ht n
      · exact ⟨rfl, fun q => absurd q (by decide)⟩
      · exact absurd ht n
    · exact absurd hz n
  · rcases hX with ⟨x, y, e1, e2, -, a1, a2, a3, a4, rfl, rfl⟩ | ⟨n, -⟩ | ⟨-, a1, rfl⟩
    · have hx : x < 4 * cw := (nI_ltI (by omega) (by omega)).mp (by rw [← g3]; exact a3)
      have hy : y < 4 * ch := (nI_ltI (by omega) (by omega)).mp (by rw [← g4]; exact a4)
      rcases hM with ⟨x2, y2, pw, ph, f1, f2, -, f3, f4, f5, f6, f7, f8, rfl, rfl⟩ | ⟨n, -⟩ | ⟨-, b1, -⟩
      · have w1 := nI_inj (e1.symm.trans f1) (by omega) (by omega)
        have w2 := nI_inj (e2.symm.trans f2) (by omega) (by omega)
        subst w1
        subst w2
        exact ⟨rfl, fun _ => by rw [updL0, g7 x y hx hy]⟩
      · exact absurd n ht
      · exact absurd (by rw [e1, e2]; exact cs_in2 g5 hx (by omega) g6 hy (by omega)) b1
    · exact absurd n hz
    · rcases hM with ⟨x2, y2, pw, ph, f1, f2, -, f3, f4, f5, f6, f7, f8, -, -⟩ | ⟨n, -⟩ | ⟨-, b1, rfl⟩
      · have w1 := nI_inj (f3.symm.trans g5) (by omega) (by omega)
        have w2 := nI_inj (f4.symm.trans g6) (by omega) (by omega)
        exact absurd (by rw [f1, f2, g3, g4]; exact hasP_in (by omega) (by omega) (nI_lt (by omega) (by omega)) (nI_lt (by omega) (by omega))) a1
      · exact absurd n ht
      · exact ⟨rfl, fun q => absurd q (by decide)⟩
theorem apX_cg {f g f' g' : Nat → Int32} {y : Nat} : ∀ n, (∀ x, x < n → f (y * 12 + x) = f' (y * 12 + x) ∧ g (y * 12 + x) = g' (y * 12 + x)) → apX f g y n = apX f' g' y n
  | 0, _ => rfl
  | n + 1, h => by
    rw [apX, apX, apX_cg n (fun x hx => h x (by omega)), (h n (by omega)).1, (h n (by omega)).2]
theorem apY_cg {f g f' g' : Nat → Int32} {W : Nat} : ∀ n, (∀ x y, x < W → y < n → f (y * 12 + x) = f' (y * 12 + x) ∧ g (y * 12 + x) = g' (y * 12 + x)) → apY f g W n = apY f' g' W n
  | 0, _ => rfl
  | n + 1, h => by
    rw [apY, apY, apY_cg n (fun x y hx hy => h x y hx (by omega)), apX_cg W (fun x hx => h x n hx (by omega))]
theorem ap_d {px1 px2 pix wd hg thr : Nat → Int32} {z1 w1 h1 z2 w2 h2 k ith : Int32} {b : UInt64} {o1 o2 : Nat} {fou fouN : Nat → UInt64} (H1 : PicI px1 z1 w1 h1 pix wd hg thr o1) (H2 : PicI px2 z2 w2 h2 pix wd hg thr o2)
    (hX : (∃ pw ph : Nat, w1 = nI pw ∧ h1 = nI ph ∧ ¬ z1 = 0 ∧ ¬ z2 = 0 ∧ w2 = nI pw ∧ h2 = nI ph ∧ pw ≤ 12 ∧ ph ≤ 12 ∧ k = 0 ∧ fouN = vf_upd fou 0 (FP.ddiv (FP.i2d (apY px1 px2 pw ph)) (FP.i2d (nI (pw * ph))))) ∨ (¬ (¬ z1 = 0 ∧ ¬ z2 = 0) ∧ k = 2) ∨ (¬ z1 = 0 ∧ ¬ z2 = 0 ∧ ¬ (w1 = w2 ∧ h1 = h2) ∧ k = 3))
    (hM : (∃ pw ph : Nat, ¬ thr o1 = 0 ∧ ¬ thr o2 = 0 ∧ wd o1 = wd o2 ∧ hg o1 = hg o2 ∧ wd o1 = nI pw ∧ hg o1 = nI ph ∧ pw ≤ 12 ∧ ph ≤ 12 ∧ b = FP.ddiv (FP.i2d (apY (oP pix o1) (oP pix o2) pw ph)) (FP.i2d (nI (pw * ph))) ∧ ith = 0) ∨ ((thr o1 = 0 ∨ thr o2 = 0) ∧ ith = 2) ∨ (¬ thr o1 = 0 ∧ ¬ thr o2 = 0 ∧ ¬ (wd o1 = wd o2 ∧ hg o1 = hg o2) ∧ ith = 3)) :
    ith = k ∧ (k = 0 → fouN 0 = b) := by
  have key : (¬ z1 = 0 ∧ ¬ z2 = 0) ↔ (¬ thr o1 = 0 ∧ ¬ thr o2 = 0) := by
    rcases H1 with ⟨a, b⟩ | ⟨a, b, -⟩ <;> rcases H2 with ⟨c, d⟩ | ⟨c, d, -⟩ <;> simp [a, b, c, d]
  by_cases hm : ¬ z1 = 0 ∧ ¬ z2 = 0
  · have ht := key.mp hm
    rcases H1 with ⟨a, -⟩ | ⟨-, -, cw, ch, g1, g2, g3, g4, g5, g6, g7⟩
    · exact absurd a hm.1
    rcases H2 with ⟨a, -⟩ | ⟨-, -, cx, cy, f1, f2, f3, f4, f5, f6, f7⟩
    · exact absurd a hm.2
    have hsz : (w1 = w2 ∧ h1 = h2) ↔ (wd o1 = wd o2 ∧ hg o1 = hg o2) := by rw [g3, g4, f3, f4, g5, g6, f5, f6]
    rcases hX with ⟨pw, ph, e1, e2, -, -, e3, e4, e5, e6, rfl, rfl⟩ | ⟨n, -⟩ | ⟨-, -, n, rfl⟩
    · rcases hM with ⟨qw, qh, -, -, -, -, d1, d2, d3, d4, rfl, rfl⟩ | ⟨n, -⟩ | ⟨-, -, n, -⟩
      · have u1 := nI_inj (e1.symm.trans g3) (by omega) (by omega)
        have u2 := nI_inj (e2.symm.trans g4) (by omega) (by omega)
        have u3 := nI_inj (e3.symm.trans f3) (by omega) (by omega)
        have u4 := nI_inj (e4.symm.trans f4) (by omega) (by omega)
        have u5 := nI_inj (d1.symm.trans g5) (by omega) (by omega)
        have u6 := nI_inj (d2.symm.trans g6) (by omega) (by omega)
        have u7 : qw = pw := by omega
        have u8 : qh = ph := by omega
        subst u7
        subst u8
        refine ⟨rfl, fun _ => ?_⟩
        rw [updD0, apY_cg (f' := oP pix o1) (g' := oP pix o2) qh (fun x y hx hy => ⟨g7 x y (by omega) (by omega), f7 x y (by omega) (by omega)⟩)]
      · exact (n.elim ht.1 ht.2).elim
      · exact absurd (hsz.mp ⟨e1.trans e3.symm, e2.trans e4.symm⟩) n
    · exact absurd hm n
    · rcases hM with ⟨qw, qh, -, -, d1, d2, -⟩ | ⟨n2, -⟩ | ⟨-, -, -, rfl⟩
      · exact absurd (hsz.mpr ⟨d1, d2⟩) n
      · exact (n2.elim ht.1 ht.2).elim
      · exact ⟨rfl, fun q => absurd q (by decide)⟩
  · have ht := fun q => hm (key.mpr q)
    rcases hX with ⟨pw, ph, -, -, a, b, -⟩ | ⟨-, rfl⟩ | ⟨a, b, -⟩
    · exact absurd ⟨a, b⟩ hm
    · rcases hM with ⟨qw, qh, a, b, -⟩ | ⟨-, rfl⟩ | ⟨a, b, -⟩
      · exact absurd ⟨a, b⟩ ht
      · exact ⟨rfl, fun q => absurd q (by decide)⟩
      · exact absurd ⟨a, b⟩ ht
    · exact absurd ⟨a, b⟩ hm
theorem m1_ge {a : Int32} (h1 : ¬ a < -1) (h2 : ¬ a = -1) : ¬ a < 0 := by
  intro h3
  rw [Int32.lt_iff_toInt_lt] at h1 h3
  have e1 : (-1 : Int32).toInt = -1 := by decide
  have e2 : (0 : Int32).toInt = 0 := by decide
  exact h2 (Int32.toInt_inj.mp (by omega))
set_option maxHeartbeats 2000000 in
theorem p_size {px : Nat → Int32} {vz : Int32} {vw : Int32} {vh : Int32} {pxc : Nat → Int32} {mdc : Nat → Int32} {vzc : Int32} {vwc : Int32} {vhc : Int32} {vkc : Int32} {pxr : Nat → Int32} {mdr : Nat → Int32} {vzr : Int32} {vwr : Int32} {vhr : Int32} {vkr : Int32} {yt : Nat → Int32} {yl : Nat} {ibc : Int32} {ilc : Int32} {igl : Int32} {ibk : Int32} {ifa : Int32} {ibd : Int32} {wd : Nat → Int32} {hg : Nat → Int32} {pix : Nat → Int32} {str : Nat → Int32} {mds : Nat → Int32} {thr : Nat → Int32} {isz : Int32} {ibl : Int32} {ile : Int32} {igr : Int32} {mbk : Int32} {ist : Int32} {ibr : Int32} {vk : Int32} {fou : Nat → Int64} {i1 : Int32} {i2 : Int32} {vzN : Int32} {vwN : Int32} {vhN : Int32} {vkN : Int32} {pxN : Nat → Int32} {fouN : Nat → Int64} {ithN : Int32} {wdN : Nat → Int32} {hgN : Nat → Int32} {pixN : Nat → Int32} {k : Int32} {bb : Int32} (hI : INV px vz vw vh pxc mdc vzc vwc vhc vkc pxr mdr vzr vwr vhr vkr yt yl ibc ilc igl ibk ifa ibd wd hg pix str mds thr isz ibl ile igr mbk ist ibr) (h1 : rx_size vz vw vh vk px fou i1 i2 vzN vwN vhN vkN pxN fouN k) (h2 : rm_size wd hg pix i1 i2 ithN wdN hgN pixN bb) : ithN = k ∧ (k = 0 → fouN 0 = Int32.toInt64 bb) ∧ INV pxN vzN vwN vhN pxc mdc vzc vwc vhc vkc pxr mdr vzr vwr vhr vkr yt yl ibc ilc igl ibk ifa ibd wdN hgN pixN str mds thr isz ibl ile igr mbk ist ibr := by
  have hI0 := hI
  obtain ⟨⟨z0, t0, ⟨cw0, ch0, hcw0, hch0, ew, eh, mw, mh⟩, hpx⟩, A1, A2, B1, B2, ⟨es, hyl, hyt⟩, ⟨q1, q2, q3, q4, q5⟩, hPX⟩ := hI0
  unfold rx_size at h1
  unfold rm_size at h2
  rcases h1 with ⟨px', a0, a1, fa0, rfl, rfl, rfl, rfl, rfl, rfl, rfl⟩ | ⟨a0, rfl, rfl, rfl, rfl, rfl, rfl, rfl⟩
  · skip
    have pS : sideP i1 ∧ sideP i2 := ⟨a0, a1⟩
    rcases h2 with ⟨b0, b1, rfl, rfl, rfl, rfl, rfl⟩ | ⟨b0, rfl, rfl, rfl, rfl, rfl⟩
    · skip
      have pS2 : sideP i1 ∧ sideP i2 := ⟨b0, b1⟩
      exact ⟨rfl, fun _ => by rw [updL0, sz_eq a0 a1], inv_size a0 a1 fa0 hI⟩
    · skip
      have nS2 : ¬ (sideP i1 ∧ sideP i2) := b0
      first | exact absurd pS nS2 | exact absurd pS2 nS | exact absurd pV nV2 | exact absurd pV2 nV | exact absurd pI nI2 | exact absurd pI2 nI | exact absurd pK nK2 | exact absurd pK2 nK | exact absurd pT nT2 | exact absurd pT2 nT | exact absurd pL nL2 | exact absurd pL2 nL | exact absurd pG nG2 | exact absurd pG2 nG | exact absurd pQ nQ2 | exact absurd pQ2 nQ | exact absurd pM nM2 | exact absurd pM2 nM | exact absurd pR nR2 | exact absurd pR2 nR | exact absurd pZ nZ2 | exact absurd pZ2 nZ | exact absurd (pR.symm.trans pZ2) (by decide) | exact absurd (pZ.symm.trans pR2) (by decide)
  · skip
    have nS : ¬ (sideP i1 ∧ sideP i2) := a0
    rcases h2 with ⟨b0, b1, rfl, rfl, rfl, rfl, rfl⟩ | ⟨b0, rfl, rfl, rfl, rfl, rfl⟩
    · skip
      have pS2 : sideP i1 ∧ sideP i2 := ⟨b0, b1⟩
      first | exact absurd pS nS2 | exact absurd pS2 nS | exact absurd pV nV2 | exact absurd pV2 nV | exact absurd pI nI2 | exact absurd pI2 nI | exact absurd pK nK2 | exact absurd pK2 nK | exact absurd pT nT2 | exact absurd pT2 nT | exact absurd pL nL2 | exact absurd pL2 nL | exact absurd pG nG2 | exact absurd pG2 nG | exact absurd pQ nQ2 | exact absurd pQ2 nQ | exact absurd pM nM2 | exact absurd pM2 nM | exact absurd pR nR2 | exact absurd pR2 nR | exact absurd pZ nZ2 | exact absurd pZ2 nZ | exact absurd (pR.symm.trans pZ2) (by decide) | exact absurd (pZ.symm.trans pR2) (by decide)
    · skip
      have nS2 : ¬ (sideP i1 ∧ sideP i2) := b0
      exact ⟨rfl, fun h => absurd h (by decide), hI⟩
set_option maxHeartbeats 2000000 in
theorem p_pixel {px : Nat → Int32} {vz : Int32} {vw : Int32} {vh : Int32} {pxc : Nat → Int32} {mdc : Nat → Int32} {vzc : Int32} {vwc : Int32} {vhc : Int32} {vkc : Int32} {pxr : Nat → Int32} {mdr : Nat → Int32} {vzr : Int32} {vwr : Int32} {vhr : Int32} {vkr : Int32} {yt : Nat → Int32} {yl : Nat} {ibc : Int32} {ilc : Int32} {igl : Int32} {ibk : Int32} {ifa : Int32} {ibd : Int32} {wd : Nat → Int32} {hg : Nat → Int32} {pix : Nat → Int32} {str : Nat → Int32} {mds : Nat → Int32} {thr : Nat → Int32} {isz : Int32} {ibl : Int32} {ile : Int32} {igr : Int32} {mbk : Int32} {ist : Int32} {ibr : Int32} {fou : Nat → Int64} {i1 : Int32} {i2 : Int32} {i3 : Int32} {pxN : Nat → Int32} {fouN : Nat → Int64} {ithN : Int32} {pixN : Nat → Int32} {k : Int32} {bb : Int32} (hI : INV px vz vw vh pxc mdc vzc vwc vhc vkc pxr mdr vzr vwr vhr vkr yt yl ibc ilc igl ibk ifa ibd wd hg pix str mds thr isz ibl ile igr mbk ist ibr) (h1 : rx_pixel vw vh px fou i1 i2 i3 pxN fouN k) (h2 : rm_pixel wd hg pix i1 i2 i3 ithN pixN bb) : ithN = k ∧ (k = 0 → fouN 0 = Int32.toInt64 bb) ∧ INV pxN vz vw vh pxc mdc vzc vwc vhc vkc pxr mdr vzr vwr vhr vkr yt yl ibc ilc igl ibk ifa ibd wd hg pixN str mds thr isz ibl ile igr mbk ist ibr := by
  have hI0 := hI
  obtain ⟨⟨z0, t0, ⟨cw0, ch0, hcw0, hch0, ew, eh, mw, mh⟩, hpx⟩, A1, A2, B1, B2, ⟨es, hyl, hyt⟩, ⟨q1, q2, q3, q4, q5⟩, hPX⟩ := hI0
  unfold rx_pixel at h1
  unfold rm_pixel at h2
  rcases h1 with ⟨x, y, e0, e1, a0, a1, a2, a3, a4, rfl, rfl, rfl⟩ | ⟨a0, rfl, rfl, rfl⟩ | ⟨a0, a1, rfl, rfl, rfl⟩
  · skip
    have pV : ¬ i3 < 0 ∧ ¬ 255 < i3 := a0
    have pI : ∃ x y : Nat, x < 4 * cw0 ∧ y < 4 * ch0 ∧ i1 = nI x ∧ i2 = nI y := ⟨x, y, (nI_ltI (by omega) (by omega)).mp (by rw [← ew]; exact a3), (nI_ltI (by omega) (by omega)).mp (by rw [← eh]; exact a4), e0, e1⟩
    rcases h2 with ⟨x2, y2, pw2, ph2, g0, g1, b0, b1, b2, b3, b4, b5, b6, rfl, rfl, rfl⟩ | ⟨b0, rfl, rfl, rfl⟩ | ⟨b0, b1, rfl, rfl, rfl⟩
    · skip
      have pV2 : ¬ i3 < 0 ∧ ¬ 255 < i3 := b0
      have pI2 : ∃ x y : Nat, x < 4 * cw0 ∧ y < 4 * ch0 ∧ i1 = nI x ∧ i2 = nI y := ⟨x2, y2, by have q := nI_inj (b1.symm.trans mw) (by omega) (by omega); omega, by have q := nI_inj (b2.symm.trans mh) (by omega) (by omega); omega, g0, g1⟩
      have w1 := nI_inj (e0.symm.trans g0) (by omega) (by omega)
      have w2 := nI_inj (e1.symm.trans g1) (by omega) (by omega)
      subst w1
      subst w2
      exact ⟨rfl, fun _ => by rw [updL0, hpx _ (by omega)], inv_upd (by omega) (sm_of a0) hI⟩
    · skip
      have nV2 : ¬ (¬ i3 < 0 ∧ ¬ 255 < i3) := b0
      first | exact absurd pS nS2 | exact absurd pS2 nS | exact absurd pV nV2 | exact absurd pV2 nV | exact absurd pI nI2 | exact absurd pI2 nI | exact absurd pK nK2 | exact absurd pK2 nK | exact absurd pT nT2 | exact absurd pT2 nT | exact absurd pL nL2 | exact absurd pL2 nL | exact absurd pG nG2 | exact absurd pG2 nG | exact absurd pQ nQ2 | exact absurd pQ2 nQ | exact absurd pM nM2 | exact absurd pM2 nM | exact absurd pR nR2 | exact absurd pR2 nR | exact absurd pZ nZ2 | exact absurd pZ2 nZ | exact absurd (pR.symm.trans pZ2) (by decide) | exact absurd (pZ.symm.trans pR2) (by decide)
    · skip
      have pV2 : ¬ i3 < 0 ∧ ¬ 255 < i3 := b0
      have nI2 : ¬ (∃ x y : Nat, x < 4 * cw0 ∧ y < 4 * ch0 ∧ i1 = nI x ∧ i2 = nI y) := fun ⟨x, y, h1, h2, h3, h4⟩ => b1 (by rw [h3, h4]; exact cs_in2 mw h1 (by omega) mh h2 (by omega))
      first | exact absurd pS nS2 | exact absurd pS2 nS | exact absurd pV nV2 | exact absurd pV2 nV | exact absurd pI nI2 | exact absurd pI2 nI | exact absurd pK nK2 | exact absurd pK2 nK | exact absurd pT nT2 | exact absurd pT2 nT | exact absurd pL nL2 | exact absurd pL2 nL | exact absurd pG nG2 | exact absurd pG2 nG | exact absurd pQ nQ2 | exact absurd pQ2 nQ | exact absurd pM nM2 | exact absurd pM2 nM | exact absurd pR nR2 | exact absurd pR2 nR | exact absurd pZ nZ2 | exact absurd pZ2 nZ | exact absurd (pR.symm.trans pZ2) (by decide) | exact absurd (pZ.symm.trans pR2) (by decide)
  · skip
    have nV : ¬ (¬ i3 < 0 ∧ ¬ 255 < i3) := a0
    rcases h2 with ⟨x2, y2, pw2, ph2, g0, g1, b0, b1, b2, b3, b4, b5, b6, rfl, rfl, rfl⟩ | ⟨b0, rfl, rfl, rfl⟩ | ⟨b0, b1, rfl, rfl, rfl⟩
    · skip
      have pV2 : ¬ i3 < 0 ∧ ¬ 255 < i3 := b0
      have pI2 : ∃ x y : Nat, x < 4 * cw0 ∧ y < 4 * ch0 ∧ i1 = nI x ∧ i2 = nI y := ⟨x2, y2, by have q := nI_inj (b1.symm.trans mw) (by omega) (by omega); omega, by have q := nI_inj (b2.symm.trans mh) (by omega) (by omega); omega, g0, g1⟩
      first | exact absurd pS nS2 | exact absurd pS2 nS | exact absurd pV nV2 | exact absurd pV2 nV | exact absurd pI nI2 | exact absurd pI2 nI | exact absurd pK nK2 | exact absurd pK2 nK | exact absurd pT nT2 | exact absurd pT2 nT | exact absurd pL nL2 | exact absurd pL2 nL | exact absurd pG nG2 | exact absurd pG2 nG | exact absurd pQ nQ2 | exact absurd pQ2 nQ | exact absurd pM nM2 | exact absurd pM2 nM | exact absurd pR nR2 | exact absurd pR2 nR | exact absurd pZ nZ2 | exact absurd pZ2 nZ | exact absurd (pR.symm.trans pZ2) (by decide) | exact absurd (pZ.symm.trans pR2) (by decide)
    · skip
      have nV2 : ¬ (¬ i3 < 0 ∧ ¬ 255 < i3) := b0
      exact ⟨rfl, fun h => absurd h (by decide), hI⟩
    · skip
      have pV2 : ¬ i3 < 0 ∧ ¬ 255 < i3 := b0
      have nI2 : ¬ (∃ x y : Nat, x < 4 * cw0 ∧ y < 4 * ch0 ∧ i1 = nI x ∧ i2 = nI y) := fun ⟨x, y, h1, h2, h3, h4⟩ => b1 (by rw [h3, h4]; exact cs_in2 mw h1 (by omega) mh h2 (by omega))
      first | exact absurd pS nS2 | exact absurd pS2 nS | exact absurd pV nV2 | exact absurd pV2 nV | exact absurd pI nI2 | exact absurd pI2 nI | exact absurd pK nK2 | exact absurd pK2 nK | exact absurd pT nT2 | exact absurd pT2 nT | exact absurd pL nL2 | exact absurd pL2 nL | exact absurd pG nG2 | exact absurd pG2 nG | exact absurd pQ nQ2 | exact absurd pQ2 nQ | exact absurd pM nM2 | exact absurd pM2 nM | exact absurd pR nR2 | exact absurd pR2 nR | exact absurd pZ nZ2 | exact absurd pZ2 nZ | exact absurd (pR.symm.trans pZ2) (by decide) | exact absurd (pZ.symm.trans pR2) (by decide)
  · skip
    have pV : ¬ i3 < 0 ∧ ¬ 255 < i3 := a0
    have nI : ¬ (∃ x y : Nat, x < 4 * cw0 ∧ y < 4 * ch0 ∧ i1 = nI x ∧ i2 = nI y) := fun ⟨x, y, h1, h2, h3, h4⟩ => a1 (by rw [h3, h4, ew, eh]; exact hasP_in (by omega) (by omega) (nI_lt h1 (by omega)) (nI_lt h2 (by omega)))
    rcases h2 with ⟨x2, y2, pw2, ph2, g0, g1, b0, b1, b2, b3, b4, b5, b6, rfl, rfl, rfl⟩ | ⟨b0, rfl, rfl, rfl⟩ | ⟨b0, b1, rfl, rfl, rfl⟩
    · skip
      have pV2 : ¬ i3 < 0 ∧ ¬ 255 < i3 := b0
      have pI2 : ∃ x y : Nat, x < 4 * cw0 ∧ y < 4 * ch0 ∧ i1 = nI x ∧ i2 = nI y := ⟨x2, y2, by have q := nI_inj (b1.symm.trans mw) (by omega) (by omega); omega, by have q := nI_inj (b2.symm.trans mh) (by omega) (by omega); omega, g0, g1⟩
      first | exact absurd pS nS2 | exact absurd pS2 nS | exact absurd pV nV2 | exact absurd pV2 nV | exact absurd pI nI2 | exact absurd pI2 nI | exact absurd pK nK2 | exact absurd pK2 nK | exact absurd pT nT2 | exact absurd pT2 nT | exact absurd pL nL2 | exact absurd pL2 nL | exact absurd pG nG2 | exact absurd pG2 nG | exact absurd pQ nQ2 | exact absurd pQ2 nQ | exact absurd pM nM2 | exact absurd pM2 nM | exact absurd pR nR2 | exact absurd pR2 nR | exact absurd pZ nZ2 | exact absurd pZ2 nZ | exact absurd (pR.symm.trans pZ2) (by decide) | exact absurd (pZ.symm.trans pR2) (by decide)
    · skip
      have nV2 : ¬ (¬ i3 < 0 ∧ ¬ 255 < i3) := b0
      first | exact absurd pS nS2 | exact absurd pS2 nS | exact absurd pV nV2 | exact absurd pV2 nV | exact absurd pI nI2 | exact absurd pI2 nI | exact absurd pK nK2 | exact absurd pK2 nK | exact absurd pT nT2 | exact absurd pT2 nT | exact absurd pL nL2 | exact absurd pL2 nL | exact absurd pG nG2 | exact absurd pG2 nG | exact absurd pQ nQ2 | exact absurd pQ2 nQ | exact absurd pM nM2 | exact absurd pM2 nM | exact absurd pR nR2 | exact absurd pR2 nR | exact absurd pZ nZ2 | exact absurd pZ2 nZ | exact absurd (pR.symm.trans pZ2) (by decide) | exact absurd (pZ.symm.trans pR2) (by decide)
    · skip
      have pV2 : ¬ i3 < 0 ∧ ¬ 255 < i3 := b0
      have nI2 : ¬ (∃ x y : Nat, x < 4 * cw0 ∧ y < 4 * ch0 ∧ i1 = nI x ∧ i2 = nI y) := fun ⟨x, y, h1, h2, h3, h4⟩ => b1 (by rw [h3, h4]; exact cs_in2 mw h1 (by omega) mh h2 (by omega))
      exact ⟨rfl, fun h => absurd h (by decide), hI⟩
set_option maxHeartbeats 2000000 in
theorem p_fill {px : Nat → Int32} {vz : Int32} {vw : Int32} {vh : Int32} {pxc : Nat → Int32} {mdc : Nat → Int32} {vzc : Int32} {vwc : Int32} {vhc : Int32} {vkc : Int32} {pxr : Nat → Int32} {mdr : Nat → Int32} {vzr : Int32} {vwr : Int32} {vhr : Int32} {vkr : Int32} {yt : Nat → Int32} {yl : Nat} {ibc : Int32} {ilc : Int32} {igl : Int32} {ibk : Int32} {ifa : Int32} {ibd : Int32} {wd : Nat → Int32} {hg : Nat → Int32} {pix : Nat → Int32} {str : Nat → Int32} {mds : Nat → Int32} {thr : Nat → Int32} {isz : Int32} {ibl : Int32} {ile : Int32} {igr : Int32} {mbk : Int32} {ist : Int32} {ibr : Int32} {fou : Nat → Int64} {i1 : Int32} {i2 : Int32} {i3 : Int32} {i4 : Int32} {i5 : Int32} {pxN : Nat → Int32} {fouN : Nat → Int64} {ithN : Int32} {pixN : Nat → Int32} {k : Int32} {bb : Int32} (hI : INV px vz vw vh pxc mdc vzc vwc vhc vkc pxr mdr vzr vwr vhr vkr yt yl ibc ilc igl ibk ifa ibd wd hg pix str mds thr isz ibl ile igr mbk ist ibr) (h1 : rx_fill vw vh px fou i1 i2 i3 i4 i5 pxN fouN k) (h2 : rm_fill wd hg pix i1 i2 i3 i4 i5 ithN pixN bb) : ithN = k ∧ (k = 0 → fouN 0 = Int32.toInt64 bb) ∧ INV pxN vz vw vh pxc mdc vzc vwc vhc vkc pxr mdr vzr vwr vhr vkr yt yl ibc ilc igl ibk ifa ibd wd hg pixN str mds thr isz ibl ile igr mbk ist ibr := by
  have hI0 := hI
  obtain ⟨⟨z0, t0, ⟨cw0, ch0, hcw0, hch0, ew, eh, mw, mh⟩, hpx⟩, A1, A2, B1, B2, ⟨es, hyl, hyt⟩, ⟨q1, q2, q3, q4, q5⟩, hPX⟩ := hI0
  unfold rx_fill at h1
  unfold rm_fill at h2
  rcases h1 with ⟨x, y, pw, ph, e0, e1, e2, e3, a0, a1, a2, a3, a4, a5, a6, rfl, rfl, rfl⟩ | ⟨a0, rfl, rfl, rfl⟩ | ⟨a0, a1, a2, a3, rfl, rfl, rfl⟩
  · skip
    have pV : (¬ i3 < 0 ∧ ¬ 255 < i3) ∧ (¬ i4 < (-255) ∧ ¬ 255 < i4) ∧ (¬ i5 < (-255) ∧ ¬ 255 < i5) := ⟨a0, a1, a2⟩
    have pI : ∃ x y : Nat, x < 4 * cw0 ∧ y < 4 * ch0 ∧ i1 = nI x ∧ i2 = nI y := ⟨x, y, by have q := nI_inj (e2.symm.trans ew) (by omega) (by omega); omega, by have q := nI_inj (e3.symm.trans eh) (by omega) (by omega); omega, e0, e1⟩
    rcases h2 with ⟨x2, y2, pw2, ph2, g0, g1, b0, b1, b2, b3, b4, b5, b6, b7, b8, rfl, rfl, rfl⟩ | ⟨b0, rfl, rfl, rfl⟩ | ⟨b0, b1, b2, b3, rfl, rfl, rfl⟩
    · skip
      have pV2 : (¬ i3 < 0 ∧ ¬ 255 < i3) ∧ (¬ i4 < (-255) ∧ ¬ 255 < i4) ∧ (¬ i5 < (-255) ∧ ¬ 255 < i5) := ⟨b0, b1, b2⟩
      have pI2 : ∃ x y : Nat, x < 4 * cw0 ∧ y < 4 * ch0 ∧ i1 = nI x ∧ i2 = nI y := ⟨x2, y2, by have q := nI_inj (b3.symm.trans mw) (by omega) (by omega); omega, by have q := nI_inj (b4.symm.trans mh) (by omega) (by omega); omega, g0, g1⟩
      have w1 := nI_inj (e0.symm.trans g0) (by omega) (by omega)
      have w2 := nI_inj (e1.symm.trans g1) (by omega) (by omega)
      have w3 := nI_inj (e2.symm.trans (ew.trans (mw.symm.trans b3))) (by omega) (by omega)
      have w4 := nI_inj (e3.symm.trans (eh.trans (mh.symm.trans b4))) (by omega) (by omega)
      subst w1
      subst w2
      have w5 := nI_inj (e0.symm.trans ew) (by omega) (by omega)
      have w6 := nI_inj (e1.symm.trans eh) (by omega) (by omega)
      subst w3
      subst w4
      exact ⟨rfl, fun _ => by rw [updL0, b3, b4, nI_sub (by omega), nI_sub (by omega), pk_mul, Nat.mul_comm], inv_fill hI⟩
    · skip
      have nV2 : ¬ ((¬ i3 < 0 ∧ ¬ 255 < i3) ∧ (¬ i4 < (-255) ∧ ¬ 255 < i4) ∧ (¬ i5 < (-255) ∧ ¬ 255 < i5)) := b0
      first | exact absurd pS nS2 | exact absurd pS2 nS | exact absurd pV nV2 | exact absurd pV2 nV | exact absurd pI nI2 | exact absurd pI2 nI | exact absurd pK nK2 | exact absurd pK2 nK | exact absurd pT nT2 | exact absurd pT2 nT | exact absurd pL nL2 | exact absurd pL2 nL | exact absurd pG nG2 | exact absurd pG2 nG | exact absurd pQ nQ2 | exact absurd pQ2 nQ | exact absurd pM nM2 | exact absurd pM2 nM | exact absurd pR nR2 | exact absurd pR2 nR | exact absurd pZ nZ2 | exact absurd pZ2 nZ | exact absurd (pR.symm.trans pZ2) (by decide) | exact absurd (pZ.symm.trans pR2) (by decide)
    · skip
      have pV2 : (¬ i3 < 0 ∧ ¬ 255 < i3) ∧ (¬ i4 < (-255) ∧ ¬ 255 < i4) ∧ (¬ i5 < (-255) ∧ ¬ 255 < i5) := ⟨b0, b1, b2⟩
      have nI2 : ¬ (∃ x y : Nat, x < 4 * cw0 ∧ y < 4 * ch0 ∧ i1 = nI x ∧ i2 = nI y) := fun ⟨x, y, h1, h2, h3, h4⟩ => b3 (by rw [h3, h4]; exact cs_in2 mw h1 (by omega) mh h2 (by omega))
      first | exact absurd pS nS2 | exact absurd pS2 nS | exact absurd pV nV2 | exact absurd pV2 nV | exact absurd pI nI2 | exact absurd pI2 nI | exact absurd pK nK2 | exact absurd pK2 nK | exact absurd pT nT2 | exact absurd pT2 nT | exact absurd pL nL2 | exact absurd pL2 nL | exact absurd pG nG2 | exact absurd pG2 nG | exact absurd pQ nQ2 | exact absurd pQ2 nQ | exact absurd pM nM2 | exact absurd pM2 nM | exact absurd pR nR2 | exact absurd pR2 nR | exact absurd pZ nZ2 | exact absurd pZ2 nZ | exact absurd (pR.symm.trans pZ2) (by decide) | exact absurd (pZ.symm.trans pR2) (by decide)
  · skip
    have nV : ¬ ((¬ i3 < 0 ∧ ¬ 255 < i3) ∧ (¬ i4 < (-255) ∧ ¬ 255 < i4) ∧ (¬ i5 < (-255) ∧ ¬ 255 < i5)) := a0
    rcases h2 with ⟨x2, y2, pw2, ph2, g0, g1, b0, b1, b2, b3, b4, b5, b6, b7, b8, rfl, rfl, rfl⟩ | ⟨b0, rfl, rfl, rfl⟩ | ⟨b0, b1, b2, b3, rfl, rfl, rfl⟩
    · skip
      have pV2 : (¬ i3 < 0 ∧ ¬ 255 < i3) ∧ (¬ i4 < (-255) ∧ ¬ 255 < i4) ∧ (¬ i5 < (-255) ∧ ¬ 255 < i5) := ⟨b0, b1, b2⟩
      have pI2 : ∃ x y : Nat, x < 4 * cw0 ∧ y < 4 * ch0 ∧ i1 = nI x ∧ i2 = nI y := ⟨x2, y2, by have q := nI_inj (b3.symm.trans mw) (by omega) (by omega); omega, by have q := nI_inj (b4.symm.trans mh) (by omega) (by omega); omega, g0, g1⟩
      first | exact absurd pS nS2 | exact absurd pS2 nS | exact absurd pV nV2 | exact absurd pV2 nV | exact absurd pI nI2 | exact absurd pI2 nI | exact absurd pK nK2 | exact absurd pK2 nK | exact absurd pT nT2 | exact absurd pT2 nT | exact absurd pL nL2 | exact absurd pL2 nL | exact absurd pG nG2 | exact absurd pG2 nG | exact absurd pQ nQ2 | exact absurd pQ2 nQ | exact absurd pM nM2 | exact absurd pM2 nM | exact absurd pR nR2 | exact absurd pR2 nR | exact absurd pZ nZ2 | exact absurd pZ2 nZ | exact absurd (pR.symm.trans pZ2) (by decide) | exact absurd (pZ.symm.trans pR2) (by decide)
    · skip
      have nV2 : ¬ ((¬ i3 < 0 ∧ ¬ 255 < i3) ∧ (¬ i4 < (-255) ∧ ¬ 255 < i4) ∧ (¬ i5 < (-255) ∧ ¬ 255 < i5)) := b0
      exact ⟨rfl, fun h => absurd h (by decide), hI⟩
    · skip
      have pV2 : (¬ i3 < 0 ∧ ¬ 255 < i3) ∧ (¬ i4 < (-255) ∧ ¬ 255 < i4) ∧ (¬ i5 < (-255) ∧ ¬ 255 < i5) := ⟨b0, b1, b2⟩
      have nI2 : ¬ (∃ x y : Nat, x < 4 * cw0 ∧ y < 4 * ch0 ∧ i1 = nI x ∧ i2 = nI y) := fun ⟨x, y, h1, h2, h3, h4⟩ => b3 (by rw [h3, h4]; exact cs_in2 mw h1 (by omega) mh h2 (by omega))
      first | exact absurd pS nS2 | exact absurd pS2 nS | exact absurd pV nV2 | exact absurd pV2 nV | exact absurd pI nI2 | exact absurd pI2 nI | exact absurd pK nK2 | exact absurd pK2 nK | exact absurd pT nT2 | exact absurd pT2 nT | exact absurd pL nL2 | exact absurd pL2 nL | exact absurd pG nG2 | exact absurd pG2 nG | exact absurd pQ nQ2 | exact absurd pQ2 nQ | exact absurd pM nM2 | exact absurd pM2 nM | exact absurd pR nR2 | exact absurd pR2 nR | exact absurd pZ nZ2 | exact absurd pZ2 nZ | exact absurd (pR.symm.trans pZ2) (by decide) | exact absurd (pZ.symm.trans pR2) (by decide)
  · skip
    have pV : (¬ i3 < 0 ∧ ¬ 255 < i3) ∧ (¬ i4 < (-255) ∧ ¬ 255 < i4) ∧ (¬ i5 < (-255) ∧ ¬ 255 < i5) := ⟨a0, a1, a2⟩
    have nI : ¬ (∃ x y : Nat, x < 4 * cw0 ∧ y < 4 * ch0 ∧ i1 = nI x ∧ i2 = nI y) := fun ⟨x, y, h1, h2, h3, h4⟩ => a3 (by rw [h3, h4, ew, eh]; exact hasP_in (by omega) (by omega) (nI_lt h1 (by omega)) (nI_lt h2 (by omega)))
    rcases h2 with ⟨x2, y2, pw2, ph2, g0, g1, b0, b1, b2, b3, b4, b5, b6, b7, b8, rfl, rfl, rfl⟩ | ⟨b0, rfl, rfl, rfl⟩ | ⟨b0, b1, b2, b3, rfl, rfl, rfl⟩
    · skip
      have pV2 : (¬ i3 < 0 ∧ ¬ 255 < i3) ∧ (¬ i4 < (-255) ∧ ¬ 255 < i4) ∧ (¬ i5 < (-255) ∧ ¬ 255 < i5) := ⟨b0, b1, b2⟩
      have pI2 : ∃ x y : Nat, x < 4 * cw0 ∧ y < 4 * ch0 ∧ i1 = nI x ∧ i2 = nI y := ⟨x2, y2, by have q := nI_inj (b3.symm.trans mw) (by omega) (by omega); omega, by have q := nI_inj (b4.symm.trans mh) (by omega) (by omega); omega, g0, g1⟩
      first | exact absurd pS nS2 | exact absurd pS2 nS | exact absurd pV nV2 | exact absurd pV2 nV | exact absurd pI nI2 | exact absurd pI2 nI | exact absurd pK nK2 | exact absurd pK2 nK | exact absurd pT nT2 | exact absurd pT2 nT | exact absurd pL nL2 | exact absurd pL2 nL | exact absurd pG nG2 | exact absurd pG2 nG | exact absurd pQ nQ2 | exact absurd pQ2 nQ | exact absurd pM nM2 | exact absurd pM2 nM | exact absurd pR nR2 | exact absurd pR2 nR | exact absurd pZ nZ2 | exact absurd pZ2 nZ | exact absurd (pR.symm.trans pZ2) (by decide) | exact absurd (pZ.symm.trans pR2) (by decide)
    · skip
      have nV2 : ¬ ((¬ i3 < 0 ∧ ¬ 255 < i3) ∧ (¬ i4 < (-255) ∧ ¬ 255 < i4) ∧ (¬ i5 < (-255) ∧ ¬ 255 < i5)) := b0
      first | exact absurd pS nS2 | exact absurd pS2 nS | exact absurd pV nV2 | exact absurd pV2 nV | exact absurd pI nI2 | exact absurd pI2 nI | exact absurd pK nK2 | exact absurd pK2 nK | exact absurd pT nT2 | exact absurd pT2 nT | exact absurd pL nL2 | exact absurd pL2 nL | exact absurd pG nG2 | exact absurd pG2 nG | exact absurd pQ nQ2 | exact absurd pQ2 nQ | exact absurd pM nM2 | exact absurd pM2 nM | exact absurd pR nR2 | exact absurd pR2 nR | exact absurd pZ nZ2 | exact absurd pZ2 nZ | exact absurd (pR.symm.trans pZ2) (by decide) | exact absurd (pZ.symm.trans pR2) (by decide)
    · skip
      have pV2 : (¬ i3 < 0 ∧ ¬ 255 < i3) ∧ (¬ i4 < (-255) ∧ ¬ 255 < i4) ∧ (¬ i5 < (-255) ∧ ¬ 255 < i5) := ⟨b0, b1, b2⟩
      have nI2 : ¬ (∃ x y : Nat, x < 4 * cw0 ∧ y < 4 * ch0 ∧ i1 = nI x ∧ i2 = nI y) := fun ⟨x, y, h1, h2, h3, h4⟩ => b3 (by rw [h3, h4]; exact cs_in2 mw h1 (by omega) mh h2 (by omega))
      exact ⟨rfl, fun h => absurd h (by decide), hI⟩
set_option maxHeartbeats 2000000 in
theorem p_count {px : Nat → Int32} {vz : Int32} {vw : Int32} {vh : Int32} {pxc : Nat → Int32} {mdc : Nat → Int32} {vzc : Int32} {vwc : Int32} {vhc : Int32} {vkc : Int32} {pxr : Nat → Int32} {mdr : Nat → Int32} {vzr : Int32} {vwr : Int32} {vhr : Int32} {vkr : Int32} {yt : Nat → Int32} {yl : Nat} {ibc : Int32} {ilc : Int32} {igl : Int32} {ibk : Int32} {ifa : Int32} {ibd : Int32} {wd : Nat → Int32} {hg : Nat → Int32} {pix : Nat → Int32} {str : Nat → Int32} {mds : Nat → Int32} {thr : Nat → Int32} {isz : Int32} {ibl : Int32} {ile : Int32} {igr : Int32} {mbk : Int32} {ist : Int32} {ibr : Int32} {fou : Nat → Int64} {i1 : Int32} {fouN : Nat → Int64} {ithN : Int32} {k : Int32} {bb : Int32} (hI : INV px vz vw vh pxc mdc vzc vwc vhc vkc pxr mdr vzr vwr vhr vkr yt yl ibc ilc igl ibk ifa ibd wd hg pix str mds thr isz ibl ile igr mbk ist ibr) (h1 : rx_count ibc ilc igl ibk ifa ibd vw vh fou i1 fouN k) (h2 : rm_count ibl ile igr mbk ist ibr wd hg i1 ithN bb) : ithN = k ∧ (k = 0 → fouN 0 = Int32.toInt64 bb) ∧ INV px vz vw vh pxc mdc vzc vwc vhc vkc pxr mdr vzr vwr vhr vkr yt yl ibc ilc igl ibk ifa ibd wd hg pix str mds thr isz ibl ile igr mbk ist ibr := by
  have hI0 := hI
  obtain ⟨⟨z0, t0, ⟨cw0, ch0, hcw0, hch0, ew, eh, mw, mh⟩, hpx⟩, A1, A2, B1, B2, ⟨es, hyl, hyt⟩, ⟨q1, q2, q3, q4, q5⟩, hPX⟩ := hI0
  unfold rx_count at h1
  unfold rm_count at h2
  rcases h1 with ⟨a0, rfl, rfl⟩ | ⟨a0, rfl, rfl⟩
  · skip
    have pV : ¬ i1 < 0 ∧ ¬ 7 < i1 := a0
    rcases h2 with ⟨b0, rfl, rfl⟩ | ⟨b0, rfl, rfl⟩
    · skip
      have pV2 : ¬ i1 < 0 ∧ ¬ 7 < i1 := b0
      obtain ⟨n9, -, -, k3, k4, -⟩ := B2
      exact ⟨rfl, fun _ => by rw [updL0, ew, eh, mw, mh, q1, q2, q3, q4, q5, k3, k4], hI⟩
    · skip
      have nV2 : ¬ (¬ i1 < 0 ∧ ¬ 7 < i1) := b0
      first | exact absurd pS nS2 | exact absurd pS2 nS | exact absurd pV nV2 | exact absurd pV2 nV | exact absurd pI nI2 | exact absurd pI2 nI | exact absurd pK nK2 | exact absurd pK2 nK | exact absurd pT nT2 | exact absurd pT2 nT | exact absurd pL nL2 | exact absurd pL2 nL | exact absurd pG nG2 | exact absurd pG2 nG | exact absurd pQ nQ2 | exact absurd pQ2 nQ | exact absurd pM nM2 | exact absurd pM2 nM | exact absurd pR nR2 | exact absurd pR2 nR | exact absurd pZ nZ2 | exact absurd pZ2 nZ | exact absurd (pR.symm.trans pZ2) (by decide) | exact absurd (pZ.symm.trans pR2) (by decide)
  · skip
    have nV : ¬ (¬ i1 < 0 ∧ ¬ 7 < i1) := a0
    rcases h2 with ⟨b0, rfl, rfl⟩ | ⟨b0, rfl, rfl⟩
    · skip
      have pV2 : ¬ i1 < 0 ∧ ¬ 7 < i1 := b0
      first | exact absurd pS nS2 | exact absurd pS2 nS | exact absurd pV nV2 | exact absurd pV2 nV | exact absurd pI nI2 | exact absurd pI2 nI | exact absurd pK nK2 | exact absurd pK2 nK | exact absurd pT nT2 | exact absurd pT2 nT | exact absurd pL nL2 | exact absurd pL2 nL | exact absurd pG nG2 | exact absurd pG2 nG | exact absurd pQ nQ2 | exact absurd pQ2 nQ | exact absurd pM nM2 | exact absurd pM2 nM | exact absurd pR nR2 | exact absurd pR2 nR | exact absurd pZ nZ2 | exact absurd pZ2 nZ | exact absurd (pR.symm.trans pZ2) (by decide) | exact absurd (pZ.symm.trans pR2) (by decide)
    · skip
      have nV2 : ¬ (¬ i1 < 0 ∧ ¬ 7 < i1) := b0
      exact ⟨rfl, fun h => absurd h (by decide), hI⟩
set_option maxHeartbeats 2000000 in
theorem p_stream {px : Nat → Int32} {vz : Int32} {vw : Int32} {vh : Int32} {pxc : Nat → Int32} {mdc : Nat → Int32} {vzc : Int32} {vwc : Int32} {vhc : Int32} {vkc : Int32} {pxr : Nat → Int32} {mdr : Nat → Int32} {vzr : Int32} {vwr : Int32} {vhr : Int32} {vkr : Int32} {yt : Nat → Int32} {yl : Nat} {ibc : Int32} {ilc : Int32} {igl : Int32} {ibk : Int32} {ifa : Int32} {ibd : Int32} {wd : Nat → Int32} {hg : Nat → Int32} {pix : Nat → Int32} {str : Nat → Int32} {mds : Nat → Int32} {thr : Nat → Int32} {isz : Int32} {ibl : Int32} {ile : Int32} {igr : Int32} {mbk : Int32} {ist : Int32} {ibr : Int32} {fou : Nat → Int64} {i1 : Int32} {fouN : Nat → Int64} {ithN : Int32} {k : Int32} {bb : Int32} (hI : INV px vz vw vh pxc mdc vzc vwc vhc vkc pxr mdr vzr vwr vhr vkr yt yl ibc ilc igl ibk ifa ibd wd hg pix str mds thr isz ibl ile igr mbk ist ibr) (h1 : rx_stream yl yt fou i1 fouN k) (h2 : rm_stream isz str i1 ithN bb) : ithN = k ∧ (k = 0 → fouN 0 = Int32.toInt64 bb) ∧ INV px vz vw vh pxc mdc vzc vwc vhc vkc pxr mdr vzr vwr vhr vkr yt yl ibc ilc igl ibk ifa ibd wd hg pix str mds thr isz ibl ile igr mbk ist ibr := by
  have hI0 := hI
  obtain ⟨⟨z0, t0, ⟨cw0, ch0, hcw0, hch0, ew, eh, mw, mh⟩, hpx⟩, A1, A2, B1, B2, ⟨es, hyl, hyt⟩, ⟨q1, q2, q3, q4, q5⟩, hPX⟩ := hI0
  unfold rx_stream at h1
  unfold rm_stream at h2
  rcases h1 with ⟨e0, rfl, rfl⟩ | ⟨k, e0, a0, a1, rfl, rfl⟩ | ⟨a0, a1, rfl, rfl⟩
  · skip
    have pL : i1 = (-1) := e0
    rcases h2 with ⟨ns2, k2, g0, g1, b0, b1, rfl, rfl⟩ | ⟨ns2, g0, g1, b0, rfl, rfl⟩ | ⟨ns2, g0, b0, rfl, rfl⟩
    · skip
      have pK2 : ∃ k : Nat, k < yl ∧ i1 = nI k := ⟨k2, by have w := nI_inj (g1.symm.trans es) (by omega) (by omega); omega, g0⟩
      have nL2 : ¬ (i1 = (-1)) := by rw [g0]; exact cs_nm1 (by omega)
      first | exact absurd pS nS2 | exact absurd pS2 nS | exact absurd pV nV2 | exact absurd pV2 nV | exact absurd pI nI2 | exact absurd pI2 nI | exact absurd pK nK2 | exact absurd pK2 nK | exact absurd pT nT2 | exact absurd pT2 nT | exact absurd pL nL2 | exact absurd pL2 nL | exact absurd pG nG2 | exact absurd pG2 nG | exact absurd pQ nQ2 | exact absurd pQ2 nQ | exact absurd pM nM2 | exact absurd pM2 nM | exact absurd pR nR2 | exact absurd pR2 nR | exact absurd pZ nZ2 | exact absurd pZ2 nZ | exact absurd (pR.symm.trans pZ2) (by decide) | exact absurd (pZ.symm.trans pR2) (by decide)
    · skip
      have pL2 : i1 = (-1) := g0
      exact ⟨rfl, fun _ => by rw [updL0, ← g1, es], hI⟩
    · skip
      have nL2 : ¬ (i1 = (-1)) := fun h => b0 (by rw [h, ← g0, es]; exact ⟨by decide, cs_ns1 hyl⟩)
      have nK2 : ¬ (∃ k : Nat, k < yl ∧ i1 = nI k) := fun ⟨k, h1, h2⟩ => b0 (by rw [h2, ← g0, es]; exact ⟨cs_m1 (by omega), (cs_inN h1 (by omega)).2⟩)
      first | exact absurd pS nS2 | exact absurd pS2 nS | exact absurd pV nV2 | exact absurd pV2 nV | exact absurd pI nI2 | exact absurd pI2 nI | exact absurd pK nK2 | exact absurd pK2 nK | exact absurd pT nT2 | exact absurd pT2 nT | exact absurd pL nL2 | exact absurd pL2 nL | exact absurd pG nG2 | exact absurd pG2 nG | exact absurd pQ nQ2 | exact absurd pQ2 nQ | exact absurd pM nM2 | exact absurd pM2 nM | exact absurd pR nR2 | exact absurd pR2 nR | exact absurd pZ nZ2 | exact absurd pZ2 nZ | exact absurd (pR.symm.trans pZ2) (by decide) | exact absurd (pZ.symm.trans pR2) (by decide)
  · skip
    have pK : ∃ k : Nat, k < yl ∧ i1 = nI k := ⟨k, a1, e0⟩
    have nL : ¬ (i1 = (-1)) := by rw [e0]; exact cs_nm1 (by omega)
    rcases h2 with ⟨ns2, k2, g0, g1, b0, b1, rfl, rfl⟩ | ⟨ns2, g0, g1, b0, rfl, rfl⟩ | ⟨ns2, g0, b0, rfl, rfl⟩
    · skip
      have pK2 : ∃ k : Nat, k < yl ∧ i1 = nI k := ⟨k2, by have w := nI_inj (g1.symm.trans es) (by omega) (by omega); omega, g0⟩
      have nL2 : ¬ (i1 = (-1)) := by rw [g0]; exact cs_nm1 (by omega)
      have w1 := nI_inj (e0.symm.trans g0) (by omega) (by omega)
      subst w1
      exact ⟨rfl, fun _ => by rw [updL0, (hyt _ a1).1], hI⟩
    · skip
      have pL2 : i1 = (-1) := g0
      first | exact absurd pS nS2 | exact absurd pS2 nS | exact absurd pV nV2 | exact absurd pV2 nV | exact absurd pI nI2 | exact absurd pI2 nI | exact absurd pK nK2 | exact absurd pK2 nK | exact absurd pT nT2 | exact absurd pT2 nT | exact absurd pL nL2 | exact absurd pL2 nL | exact absurd pG nG2 | exact absurd pG2 nG | exact absurd pQ nQ2 | exact absurd pQ2 nQ | exact absurd pM nM2 | exact absurd pM2 nM | exact absurd pR nR2 | exact absurd pR2 nR | exact absurd pZ nZ2 | exact absurd pZ2 nZ | exact absurd (pR.symm.trans pZ2) (by decide) | exact absurd (pZ.symm.trans pR2) (by decide)
    · skip
      have nL2 : ¬ (i1 = (-1)) := fun h => b0 (by rw [h, ← g0, es]; exact ⟨by decide, cs_ns1 hyl⟩)
      have nK2 : ¬ (∃ k : Nat, k < yl ∧ i1 = nI k) := fun ⟨k, h1, h2⟩ => b0 (by rw [h2, ← g0, es]; exact ⟨cs_m1 (by omega), (cs_inN h1 (by omega)).2⟩)
      first | exact absurd pS nS2 | exact absurd pS2 nS | exact absurd pV nV2 | exact absurd pV2 nV | exact absurd pI nI2 | exact absurd pI2 nI | exact absurd pK nK2 | exact absurd pK2 nK | exact absurd pT nT2 | exact absurd pT2 nT | exact absurd pL nL2 | exact absurd pL2 nL | exact absurd pG nG2 | exact absurd pG2 nG | exact absurd pQ nQ2 | exact absurd pQ2 nQ | exact absurd pM nM2 | exact absurd pM2 nM | exact absurd pR nR2 | exact absurd pR2 nR | exact absurd pZ nZ2 | exact absurd pZ2 nZ | exact absurd (pR.symm.trans pZ2) (by decide) | exact absurd (pZ.symm.trans pR2) (by decide)
  · skip
    have nL : ¬ (i1 = (-1)) := a0
    have nK : ¬ (∃ k : Nat, k < yl ∧ i1 = nI k) := fun ⟨k, h1, h2⟩ => a1 (by rw [h2]; exact ⟨nI_pos (by omega), nI_ge h1 (by omega), nI_ge (b := 400) (by omega) (by decide)⟩)
    rcases h2 with ⟨ns2, k2, g0, g1, b0, b1, rfl, rfl⟩ | ⟨ns2, g0, g1, b0, rfl, rfl⟩ | ⟨ns2, g0, b0, rfl, rfl⟩
    · skip
      have pK2 : ∃ k : Nat, k < yl ∧ i1 = nI k := ⟨k2, by have w := nI_inj (g1.symm.trans es) (by omega) (by omega); omega, g0⟩
      have nL2 : ¬ (i1 = (-1)) := by rw [g0]; exact cs_nm1 (by omega)
      first | exact absurd pS nS2 | exact absurd pS2 nS | exact absurd pV nV2 | exact absurd pV2 nV | exact absurd pI nI2 | exact absurd pI2 nI | exact absurd pK nK2 | exact absurd pK2 nK | exact absurd pT nT2 | exact absurd pT2 nT | exact absurd pL nL2 | exact absurd pL2 nL | exact absurd pG nG2 | exact absurd pG2 nG | exact absurd pQ nQ2 | exact absurd pQ2 nQ | exact absurd pM nM2 | exact absurd pM2 nM | exact absurd pR nR2 | exact absurd pR2 nR | exact absurd pZ nZ2 | exact absurd pZ2 nZ | exact absurd (pR.symm.trans pZ2) (by decide) | exact absurd (pZ.symm.trans pR2) (by decide)
    · skip
      have pL2 : i1 = (-1) := g0
      first | exact absurd pS nS2 | exact absurd pS2 nS | exact absurd pV nV2 | exact absurd pV2 nV | exact absurd pI nI2 | exact absurd pI2 nI | exact absurd pK nK2 | exact absurd pK2 nK | exact absurd pT nT2 | exact absurd pT2 nT | exact absurd pL nL2 | exact absurd pL2 nL | exact absurd pG nG2 | exact absurd pG2 nG | exact absurd pQ nQ2 | exact absurd pQ2 nQ | exact absurd pM nM2 | exact absurd pM2 nM | exact absurd pR nR2 | exact absurd pR2 nR | exact absurd pZ nZ2 | exact absurd pZ2 nZ | exact absurd (pR.symm.trans pZ2) (by decide) | exact absurd (pZ.symm.trans pR2) (by decide)
    · skip
      have nL2 : ¬ (i1 = (-1)) := fun h => b0 (by rw [h, ← g0, es]; exact ⟨by decide, cs_ns1 hyl⟩)
      have nK2 : ¬ (∃ k : Nat, k < yl ∧ i1 = nI k) := fun ⟨k, h1, h2⟩ => b0 (by rw [h2, ← g0, es]; exact ⟨cs_m1 (by omega), (cs_inN h1 (by omega)).2⟩)
      exact ⟨rfl, fun h => absurd h (by decide), hI⟩
set_option maxHeartbeats 2000000 in
theorem p_damage {px : Nat → Int32} {vz : Int32} {vw : Int32} {vh : Int32} {pxc : Nat → Int32} {mdc : Nat → Int32} {vzc : Int32} {vwc : Int32} {vhc : Int32} {vkc : Int32} {pxr : Nat → Int32} {mdr : Nat → Int32} {vzr : Int32} {vwr : Int32} {vhr : Int32} {vkr : Int32} {yt : Nat → Int32} {yl : Nat} {ibc : Int32} {ilc : Int32} {igl : Int32} {ibk : Int32} {ifa : Int32} {ibd : Int32} {wd : Nat → Int32} {hg : Nat → Int32} {pix : Nat → Int32} {str : Nat → Int32} {mds : Nat → Int32} {thr : Nat → Int32} {isz : Int32} {ibl : Int32} {ile : Int32} {igr : Int32} {mbk : Int32} {ist : Int32} {ibr : Int32} {fou : Nat → Int64} {i1 : Int32} {i2 : Int32} {ylN : Nat} {ytN : Nat → Int32} {fouN : Nat → Int64} {iszN : Int32} {ithN : Int32} {strN : Nat → Int32} {k : Int32} {bb : Int32} (hI : INV px vz vw vh pxc mdc vzc vwc vhc vkc pxr mdr vzr vwr vhr vkr yt yl ibc ilc igl ibk ifa ibd wd hg pix str mds thr isz ibl ile igr mbk ist ibr) (h1 : rx_damage yl yt fou i1 i2 ylN ytN fouN k) (h2 : rm_damage isz str i1 i2 iszN ithN strN bb) : ithN = k ∧ (k = 0 → fouN 0 = Int32.toInt64 bb) ∧ INV px vz vw vh pxc mdc vzc vwc vhc vkc pxr mdr vzr vwr vhr vkr ytN ylN ibc ilc igl ibk ifa ibd wd hg pix strN mds thr iszN ibl ile igr mbk ist ibr := by
  have hI0 := hI
  obtain ⟨⟨z0, t0, ⟨cw0, ch0, hcw0, hch0, ew, eh, mw, mh⟩, hpx⟩, A1, A2, B1, B2, ⟨es, hyl, hyt⟩, ⟨q1, q2, q3, q4, q5⟩, hPX⟩ := hI0
  unfold rx_damage at h1
  unfold rm_damage at h2
  rcases h1 with ⟨k, e0, a0, a1, a2, rfl, rfl, rfl, rfl⟩ | ⟨e0, a0, a1, rfl, rfl, rfl, rfl⟩ | ⟨a0, rfl, rfl, rfl, rfl⟩ | ⟨a0, a1, rfl, rfl, rfl, rfl⟩
  · skip
    have pV : ¬ i2 < 0 ∧ ¬ 255 < i2 := a1
    have pK : ∃ k : Nat, k < yl ∧ i1 = nI k := ⟨k, a2, e0⟩
    rcases h2 with ⟨ns2, k2, g0, g1, b0, b1, b2, rfl, rfl, rfl, rfl⟩ | ⟨ns2, g0, g1, b0, b1, rfl, rfl, rfl, rfl⟩ | ⟨b0, rfl, rfl, rfl, rfl⟩ | ⟨ns2, g0, b0, b1, rfl, rfl, rfl, rfl⟩
    · skip
      have pV2 : ¬ i2 < 0 ∧ ¬ 255 < i2 := b1
      have pK2 : ∃ k : Nat, k < yl ∧ i1 = nI k := ⟨k2, by have w := nI_inj (g1.symm.trans es) (by omega) (by omega); omega, g0⟩
      have w1 := nI_inj (e0.symm.trans g0) (by omega) (by omega)
      subst w1
      exact ⟨rfl, fun _ => by rw [updL0, (hyt _ a2).1], inv_byte a2 (sm_of a1) g1 hI⟩
    · skip
      have pV2 : ¬ i2 < 0 ∧ ¬ 255 < i2 := b1
      have pT2 : yl < 400 ∧ i1 = nI yl := ⟨by have w := nI_inj (g1.symm.trans es) (by omega) (by omega); omega, g0.trans (g1.symm.trans es)⟩
      have nK2 : ¬ (∃ k : Nat, k < yl ∧ i1 = nI k) := fun ⟨k, h1, h2⟩ => by have w := nI_inj (g1.symm.trans es) (by omega) (by omega); have w2 := nI_inj (g0.symm.trans h2) (by omega) (by omega); omega
      first | exact absurd pS nS2 | exact absurd pS2 nS | exact absurd pV nV2 | exact absurd pV2 nV | exact absurd pI nI2 | exact absurd pI2 nI | exact absurd pK nK2 | exact absurd pK2 nK | exact absurd pT nT2 | exact absurd pT2 nT | exact absurd pL nL2 | exact absurd pL2 nL | exact absurd pG nG2 | exact absurd pG2 nG | exact absurd pQ nQ2 | exact absurd pQ2 nQ | exact absurd pM nM2 | exact absurd pM2 nM | exact absurd pR nR2 | exact absurd pR2 nR | exact absurd pZ nZ2 | exact absurd pZ2 nZ | exact absurd (pR.symm.trans pZ2) (by decide) | exact absurd (pZ.symm.trans pR2) (by decide)
    · skip
      have nV2 : ¬ (¬ i2 < 0 ∧ ¬ 255 < i2) := b0
      first | exact absurd pS nS2 | exact absurd pS2 nS | exact absurd pV nV2 | exact absurd pV2 nV | exact absurd pI nI2 | exact absurd pI2 nI | exact absurd pK nK2 | exact absurd pK2 nK | exact absurd pT nT2 | exact absurd pT2 nT | exact absurd pL nL2 | exact absurd pL2 nL | exact absurd pG nG2 | exact absurd pG2 nG | exact absurd pQ nQ2 | exact absurd pQ2 nQ | exact absurd pM nM2 | exact absurd pM2 nM | exact absurd pR nR2 | exact absurd pR2 nR | exact absurd pZ nZ2 | exact absurd pZ2 nZ | exact absurd (pR.symm.trans pZ2) (by decide) | exact absurd (pZ.symm.trans pR2) (by decide)
    · skip
      have pV2 : ¬ i2 < 0 ∧ ¬ 255 < i2 := b0
      have nK2 : ¬ (∃ k : Nat, k < yl ∧ i1 = nI k) := fun ⟨k, h1, h2⟩ => b1.elim (fun h => h (by rw [h2, ← g0, es]; exact cs_inL (by omega) (by omega))) (fun h => by have w := nI_inj (b := 400) (h2.symm.trans h) (by omega) (by decide); omega)
      have nT2 : ¬ (yl < 400 ∧ i1 = nI yl) := fun ⟨h1, h2⟩ => b1.elim (fun h => h (by rw [h2, ← g0, es]; exact cs_inL (by omega) (by omega))) (fun h => by have w := nI_inj (b := 400) (h2.symm.trans h) (by omega) (by decide); omega)
      first | exact absurd pS nS2 | exact absurd pS2 nS | exact absurd pV nV2 | exact absurd pV2 nV | exact absurd pI nI2 | exact absurd pI2 nI | exact absurd pK nK2 | exact absurd pK2 nK | exact absurd pT nT2 | exact absurd pT2 nT | exact absurd pL nL2 | exact absurd pL2 nL | exact absurd pG nG2 | exact absurd pG2 nG | exact absurd pQ nQ2 | exact absurd pQ2 nQ | exact absurd pM nM2 | exact absurd pM2 nM | exact absurd pR nR2 | exact absurd pR2 nR | exact absurd pZ nZ2 | exact absurd pZ2 nZ | exact absurd (pR.symm.trans pZ2) (by decide) | exact absurd (pZ.symm.trans pR2) (by decide)
  · skip
    have pV : ¬ i2 < 0 ∧ ¬ 255 < i2 := a1
    have pT : yl < 400 ∧ i1 = nI yl := ⟨a0, e0⟩
    have nK : ¬ (∃ k : Nat, k < yl ∧ i1 = nI k) := fun ⟨k, h1, h2⟩ => by have w := nI_inj (e0.symm.trans h2) (by omega) (by omega); omega
    rcases h2 with ⟨ns2, k2, g0, g1, b0, b1, b2, rfl, rfl, rfl, rfl⟩ | ⟨ns2, g0, g1, b0, b1, rfl, rfl, rfl, rfl⟩ | ⟨b0, rfl, rfl, rfl, rfl⟩ | ⟨ns2, g0, b0, b1, rfl, rfl, rfl, rfl⟩
    · skip
      have pV2 : ¬ i2 < 0 ∧ ¬ 255 < i2 := b1
      have pK2 : ∃ k : Nat, k < yl ∧ i1 = nI k := ⟨k2, by have w := nI_inj (g1.symm.trans es) (by omega) (by omega); omega, g0⟩
      first | exact absurd pS nS2 | exact absurd pS2 nS | exact absurd pV nV2 | exact absurd pV2 nV | exact absurd pI nI2 | exact absurd pI2 nI | exact absurd pK nK2 | exact absurd pK2 nK | exact absurd pT nT2 | exact absurd pT2 nT | exact absurd pL nL2 | exact absurd pL2 nL | exact absurd pG nG2 | exact absurd pG2 nG | exact absurd pQ nQ2 | exact absurd pQ2 nQ | exact absurd pM nM2 | exact absurd pM2 nM | exact absurd pR nR2 | exact absurd pR2 nR | exact absurd pZ nZ2 | exact absurd pZ2 nZ | exact absurd (pR.symm.trans pZ2) (by decide) | exact absurd (pZ.symm.trans pR2) (by decide)
    · skip
      have pV2 : ¬ i2 < 0 ∧ ¬ 255 < i2 := b1
      have pT2 : yl < 400 ∧ i1 = nI yl := ⟨by have w := nI_inj (g1.symm.trans es) (by omega) (by omega); omega, g0.trans (g1.symm.trans es)⟩
      have nK2 : ¬ (∃ k : Nat, k < yl ∧ i1 = nI k) := fun ⟨k, h1, h2⟩ => by have w := nI_inj (g1.symm.trans es) (by omega) (by omega); have w2 := nI_inj (g0.symm.trans h2) (by omega) (by omega); omega
      exact ⟨rfl, fun _ => updL0 _ _, inv_more a0 (sm_of a1) g1 b0 hI⟩
    · skip
      have nV2 : ¬ (¬ i2 < 0 ∧ ¬ 255 < i2) := b0
      first | exact absurd pS nS2 | exact absurd pS2 nS | exact absurd pV nV2 | exact absurd pV2 nV | exact absurd pI nI2 | exact absurd pI2 nI | exact absurd pK nK2 | exact absurd pK2 nK | exact absurd pT nT2 | exact absurd pT2 nT | exact absurd pL nL2 | exact absurd pL2 nL | exact absurd pG nG2 | exact absurd pG2 nG | exact absurd pQ nQ2 | exact absurd pQ2 nQ | exact absurd pM nM2 | exact absurd pM2 nM | exact absurd pR nR2 | exact absurd pR2 nR | exact absurd pZ nZ2 | exact absurd pZ2 nZ | exact absurd (pR.symm.trans pZ2) (by decide) | exact absurd (pZ.symm.trans pR2) (by decide)
    · skip
      have pV2 : ¬ i2 < 0 ∧ ¬ 255 < i2 := b0
      have nK2 : ¬ (∃ k : Nat, k < yl ∧ i1 = nI k) := fun ⟨k, h1, h2⟩ => b1.elim (fun h => h (by rw [h2, ← g0, es]; exact cs_inL (by omega) (by omega))) (fun h => by have w := nI_inj (b := 400) (h2.symm.trans h) (by omega) (by decide); omega)
      have nT2 : ¬ (yl < 400 ∧ i1 = nI yl) := fun ⟨h1, h2⟩ => b1.elim (fun h => h (by rw [h2, ← g0, es]; exact cs_inL (by omega) (by omega))) (fun h => by have w := nI_inj (b := 400) (h2.symm.trans h) (by omega) (by decide); omega)
      first | exact absurd pS nS2 | exact absurd pS2 nS | exact absurd pV nV2 | exact absurd pV2 nV | exact absurd pI nI2 | exact absurd pI2 nI | exact absurd pK nK2 | exact absurd pK2 nK | exact absurd pT nT2 | exact absurd pT2 nT | exact absurd pL nL2 | exact absurd pL2 nL | exact absurd pG nG2 | exact absurd pG2 nG | exact absurd pQ nQ2 | exact absurd pQ2 nQ | exact absurd pM nM2 | exact absurd pM2 nM | exact absurd pR nR2 | exact absurd pR2 nR | exact absurd pZ nZ2 | exact absurd pZ2 nZ | exact absurd (pR.symm.trans pZ2) (by decide) | exact absurd (pZ.symm.trans pR2) (by decide)
  · skip
    have nV : ¬ (¬ i2 < 0 ∧ ¬ 255 < i2) := a0
    rcases h2 with ⟨ns2, k2, g0, g1, b0, b1, b2, rfl, rfl, rfl, rfl⟩ | ⟨ns2, g0, g1, b0, b1, rfl, rfl, rfl, rfl⟩ | ⟨b0, rfl, rfl, rfl, rfl⟩ | ⟨ns2, g0, b0, b1, rfl, rfl, rfl, rfl⟩
    · skip
      have pV2 : ¬ i2 < 0 ∧ ¬ 255 < i2 := b1
      have pK2 : ∃ k : Nat, k < yl ∧ i1 = nI k := ⟨k2, by have w := nI_inj (g1.symm.trans es) (by omega) (by omega); omega, g0⟩
      first | exact absurd pS nS2 | exact absurd pS2 nS | exact absurd pV nV2 | exact absurd pV2 nV | exact absurd pI nI2 | exact absurd pI2 nI | exact absurd pK nK2 | exact absurd pK2 nK | exact absurd pT nT2 | exact absurd pT2 nT | exact absurd pL nL2 | exact absurd pL2 nL | exact absurd pG nG2 | exact absurd pG2 nG | exact absurd pQ nQ2 | exact absurd pQ2 nQ | exact absurd pM nM2 | exact absurd pM2 nM | exact absurd pR nR2 | exact absurd pR2 nR | exact absurd pZ nZ2 | exact absurd pZ2 nZ | exact absurd (pR.symm.trans pZ2) (by decide) | exact absurd (pZ.symm.trans pR2) (by decide)
    · skip
      have pV2 : ¬ i2 < 0 ∧ ¬ 255 < i2 := b1
      have pT2 : yl < 400 ∧ i1 = nI yl := ⟨by have w := nI_inj (g1.symm.trans es) (by omega) (by omega); omega, g0.trans (g1.symm.trans es)⟩
      have nK2 : ¬ (∃ k : Nat, k < yl ∧ i1 = nI k) := fun ⟨k, h1, h2⟩ => by have w := nI_inj (g1.symm.trans es) (by omega) (by omega); have w2 := nI_inj (g0.symm.trans h2) (by omega) (by omega); omega
      first | exact absurd pS nS2 | exact absurd pS2 nS | exact absurd pV nV2 | exact absurd pV2 nV | exact absurd pI nI2 | exact absurd pI2 nI | exact absurd pK nK2 | exact absurd pK2 nK | exact absurd pT nT2 | exact absurd pT2 nT | exact absurd pL nL2 | exact absurd pL2 nL | exact absurd pG nG2 | exact absurd pG2 nG | exact absurd pQ nQ2 | exact absurd pQ2 nQ | exact absurd pM nM2 | exact absurd pM2 nM | exact absurd pR nR2 | exact absurd pR2 nR | exact absurd pZ nZ2 | exact absurd pZ2 nZ | exact absurd (pR.symm.trans pZ2) (by decide) | exact absurd (pZ.symm.trans pR2) (by decide)
    · skip
      have nV2 : ¬ (¬ i2 < 0 ∧ ¬ 255 < i2) := b0
      exact ⟨rfl, fun h => absurd h (by decide), hI⟩
    · skip
      have pV2 : ¬ i2 < 0 ∧ ¬ 255 < i2 := b0
      have nK2 : ¬ (∃ k : Nat, k < yl ∧ i1 = nI k) := fun ⟨k, h1, h2⟩ => b1.elim (fun h => h (by rw [h2, ← g0, es]; exact cs_inL (by omega) (by omega))) (fun h => by have w := nI_inj (b := 400) (h2.symm.trans h) (by omega) (by decide); omega)
      have nT2 : ¬ (yl < 400 ∧ i1 = nI yl) := fun ⟨h1, h2⟩ => b1.elim (fun h => h (by rw [h2, ← g0, es]; exact cs_inL (by omega) (by omega))) (fun h => by have w := nI_inj (b := 400) (h2.symm.trans h) (by omega) (by decide); omega)
      first | exact absurd pS nS2 | exact absurd pS2 nS | exact absurd pV nV2 | exact absurd pV2 nV | exact absurd pI nI2 | exact absurd pI2 nI | exact absurd pK nK2 | exact absurd pK2 nK | exact absurd pT nT2 | exact absurd pT2 nT | exact absurd pL nL2 | exact absurd pL2 nL | exact absurd pG nG2 | exact absurd pG2 nG | exact absurd pQ nQ2 | exact absurd pQ2 nQ | exact absurd pM nM2 | exact absurd pM2 nM | exact absurd pR nR2 | exact absurd pR2 nR | exact absurd pZ nZ2 | exact absurd pZ2 nZ | exact absurd (pR.symm.trans pZ2) (by decide) | exact absurd (pZ.symm.trans pR2) (by decide)
  · skip
    have pV : ¬ i2 < 0 ∧ ¬ 255 < i2 := a0
    have nK : ¬ (∃ k : Nat, k < yl ∧ i1 = nI k) := fun ⟨k, h1, h2⟩ => a1 (by rw [h2]; exact ⟨nI_pos (by omega), fun q => absurd ((nI_ltI (a := yl) (b := k) (by omega) (by omega)).mp q) (by omega), nI_lt (b := 400) (by omega) (by decide)⟩)
    have nT : ¬ (yl < 400 ∧ i1 = nI yl) := fun ⟨h1, h2⟩ => a1 (by rw [h2]; exact ⟨nI_pos (by omega), Int32.lt_irrefl, nI_lt (b := 400) (by omega) (by decide)⟩)
    rcases h2 with ⟨ns2, k2, g0, g1, b0, b1, b2, rfl, rfl, rfl, rfl⟩ | ⟨ns2, g0, g1, b0, b1, rfl, rfl, rfl, rfl⟩ | ⟨b0, rfl, rfl, rfl, rfl⟩ | ⟨ns2, g0, b0, b1, rfl, rfl, rfl, rfl⟩
    · skip
      have pV2 : ¬ i2 < 0 ∧ ¬ 255 < i2 := b1
      have pK2 : ∃ k : Nat, k < yl ∧ i1 = nI k := ⟨k2, by have w := nI_inj (g1.symm.trans es) (by omega) (by omega); omega, g0⟩
      first | exact absurd pS nS2 | exact absurd pS2 nS | exact absurd pV nV2 | exact absurd pV2 nV | exact absurd pI nI2 | exact absurd pI2 nI | exact absurd pK nK2 | exact absurd pK2 nK | exact absurd pT nT2 | exact absurd pT2 nT | exact absurd pL nL2 | exact absurd pL2 nL | exact absurd pG nG2 | exact absurd pG2 nG | exact absurd pQ nQ2 | exact absurd pQ2 nQ | exact absurd pM nM2 | exact absurd pM2 nM | exact absurd pR nR2 | exact absurd pR2 nR | exact absurd pZ nZ2 | exact absurd pZ2 nZ | exact absurd (pR.symm.trans pZ2) (by decide) | exact absurd (pZ.symm.trans pR2) (by decide)
    · skip
      have pV2 : ¬ i2 < 0 ∧ ¬ 255 < i2 := b1
      have pT2 : yl < 400 ∧ i1 = nI yl := ⟨by have w := nI_inj (g1.symm.trans es) (by omega) (by omega); omega, g0.trans (g1.symm.trans es)⟩
      have nK2 : ¬ (∃ k : Nat, k < yl ∧ i1 = nI k) := fun ⟨k, h1, h2⟩ => by have w := nI_inj (g1.symm.trans es) (by omega) (by omega); have w2 := nI_inj (g0.symm.trans h2) (by omega) (by omega); omega
      first | exact absurd pS nS2 | exact absurd pS2 nS | exact absurd pV nV2 | exact absurd pV2 nV | exact absurd pI nI2 | exact absurd pI2 nI | exact absurd pK nK2 | exact absurd pK2 nK | exact absurd pT nT2 | exact absurd pT2 nT | exact absurd pL nL2 | exact absurd pL2 nL | exact absurd pG nG2 | exact absurd pG2 nG | exact absurd pQ nQ2 | exact absurd pQ2 nQ | exact absurd pM nM2 | exact absurd pM2 nM | exact absurd pR nR2 | exact absurd pR2 nR | exact absurd pZ nZ2 | exact absurd pZ2 nZ | exact absurd (pR.symm.trans pZ2) (by decide) | exact absurd (pZ.symm.trans pR2) (by decide)
    · skip
      have nV2 : ¬ (¬ i2 < 0 ∧ ¬ 255 < i2) := b0
      first | exact absurd pS nS2 | exact absurd pS2 nS | exact absurd pV nV2 | exact absurd pV2 nV | exact absurd pI nI2 | exact absurd pI2 nI | exact absurd pK nK2 | exact absurd pK2 nK | exact absurd pT nT2 | exact absurd pT2 nT | exact absurd pL nL2 | exact absurd pL2 nL | exact absurd pG nG2 | exact absurd pG2 nG | exact absurd pQ nQ2 | exact absurd pQ2 nQ | exact absurd pM nM2 | exact absurd pM2 nM | exact absurd pR nR2 | exact absurd pR2 nR | exact absurd pZ nZ2 | exact absurd pZ2 nZ | exact absurd (pR.symm.trans pZ2) (by decide) | exact absurd (pZ.symm.trans pR2) (by decide)
    · skip
      have pV2 : ¬ i2 < 0 ∧ ¬ 255 < i2 := b0
      have nK2 : ¬ (∃ k : Nat, k < yl ∧ i1 = nI k) := fun ⟨k, h1, h2⟩ => b1.elim (fun h => h (by rw [h2, ← g0, es]; exact cs_inL (by omega) (by omega))) (fun h => by have w := nI_inj (b := 400) (h2.symm.trans h) (by omega) (by decide); omega)
      have nT2 : ¬ (yl < 400 ∧ i1 = nI yl) := fun ⟨h1, h2⟩ => b1.elim (fun h => h (by rw [h2, ← g0, es]; exact cs_inL (by omega) (by omega))) (fun h => by have w := nI_inj (b := 400) (h2.symm.trans h) (by omega) (by decide); omega)
      rw [g0] at hI
      exact ⟨rfl, fun h => absurd h (by decide), hI⟩
set_option maxHeartbeats 2000000 in
theorem p_cut {px : Nat → Int32} {vz : Int32} {vw : Int32} {vh : Int32} {pxc : Nat → Int32} {mdc : Nat → Int32} {vzc : Int32} {vwc : Int32} {vhc : Int32} {vkc : Int32} {pxr : Nat → Int32} {mdr : Nat → Int32} {vzr : Int32} {vwr : Int32} {vhr : Int32} {vkr : Int32} {yt : Nat → Int32} {yl : Nat} {ibc : Int32} {ilc : Int32} {igl : Int32} {ibk : Int32} {ifa : Int32} {ibd : Int32} {wd : Nat → Int32} {hg : Nat → Int32} {pix : Nat → Int32} {str : Nat → Int32} {mds : Nat → Int32} {thr : Nat → Int32} {isz : Int32} {ibl : Int32} {ile : Int32} {igr : Int32} {mbk : Int32} {ist : Int32} {ibr : Int32} {fou : Nat → Int64} {i1 : Int32} {ylN : Nat} {fouN : Nat → Int64} {iszN : Int32} {ithN : Int32} {k : Int32} {bb : Int32} (hI : INV px vz vw vh pxc mdc vzc vwc vhc vkc pxr mdr vzr vwr vhr vkr yt yl ibc ilc igl ibk ifa ibd wd hg pix str mds thr isz ibl ile igr mbk ist ibr) (h1 : rx_cut yl fou i1 ylN fouN k) (h2 : rm_cut isz i1 iszN ithN bb) : ithN = k ∧ (k = 0 → fouN 0 = Int32.toInt64 bb) ∧ INV px vz vw vh pxc mdc vzc vwc vhc vkc pxr mdr vzr vwr vhr vkr yt ylN ibc ilc igl ibk ifa ibd wd hg pix str mds thr iszN ibl ile igr mbk ist ibr := by
  have hI0 := hI
  obtain ⟨⟨z0, t0, ⟨cw0, ch0, hcw0, hch0, ew, eh, mw, mh⟩, hpx⟩, A1, A2, B1, B2, ⟨es, hyl, hyt⟩, ⟨q1, q2, q3, q4, q5⟩, hPX⟩ := hI0
  unfold rx_cut at h1
  unfold rm_cut at h2
  rcases h1 with ⟨k, e0, a0, a1, rfl, rfl, rfl⟩ | ⟨a0, rfl, rfl, rfl⟩
  · skip
    have pK : ∃ k : Nat, k ≤ yl ∧ i1 = nI k := ⟨k, a1, e0⟩
    rcases h2 with ⟨ns2, k2, g0, g1, b0, b1, rfl, rfl, rfl⟩ | ⟨ns2, g0, b0, rfl, rfl, rfl⟩
    · skip
      have pK2 : ∃ k : Nat, k ≤ yl ∧ i1 = nI k := ⟨k2, by have w := nI_inj (g1.symm.trans es) (by omega) (by omega); omega, g0⟩
      have w1 := nI_inj (e0.symm.trans g0) (by omega) (by omega)
      subst w1
      exact ⟨rfl, fun _ => by rw [updL0, ← g1, es], inv_cut a1 hI⟩
    · skip
      have nK2 : ¬ (∃ k : Nat, k ≤ yl ∧ i1 = nI k) := fun ⟨k, h1, h2⟩ => b0 (by rw [h2, ← g0, es]; exact cs_inL h1 (by omega))
      first | exact absurd pS nS2 | exact absurd pS2 nS | exact absurd pV nV2 | exact absurd pV2 nV | exact absurd pI nI2 | exact absurd pI2 nI | exact absurd pK nK2 | exact absurd pK2 nK | exact absurd pT nT2 | exact absurd pT2 nT | exact absurd pL nL2 | exact absurd pL2 nL | exact absurd pG nG2 | exact absurd pG2 nG | exact absurd pQ nQ2 | exact absurd pQ2 nQ | exact absurd pM nM2 | exact absurd pM2 nM | exact absurd pR nR2 | exact absurd pR2 nR | exact absurd pZ nZ2 | exact absurd pZ2 nZ | exact absurd (pR.symm.trans pZ2) (by decide) | exact absurd (pZ.symm.trans pR2) (by decide)
  · skip
    have nK : ¬ (∃ k : Nat, k ≤ yl ∧ i1 = nI k) := fun ⟨k, h1, h2⟩ => a0 (by rw [h2]; exact cs_inL h1 (by omega))
    rcases h2 with ⟨ns2, k2, g0, g1, b0, b1, rfl, rfl, rfl⟩ | ⟨ns2, g0, b0, rfl, rfl, rfl⟩
    · skip
      have pK2 : ∃ k : Nat, k ≤ yl ∧ i1 = nI k := ⟨k2, by have w := nI_inj (g1.symm.trans es) (by omega) (by omega); omega, g0⟩
      first | exact absurd pS nS2 | exact absurd pS2 nS | exact absurd pV nV2 | exact absurd pV2 nV | exact absurd pI nI2 | exact absurd pI2 nI | exact absurd pK nK2 | exact absurd pK2 nK | exact absurd pT nT2 | exact absurd pT2 nT | exact absurd pL nL2 | exact absurd pL2 nL | exact absurd pG nG2 | exact absurd pG2 nG | exact absurd pQ nQ2 | exact absurd pQ2 nQ | exact absurd pM nM2 | exact absurd pM2 nM | exact absurd pR nR2 | exact absurd pR2 nR | exact absurd pZ nZ2 | exact absurd pZ2 nZ | exact absurd (pR.symm.trans pZ2) (by decide) | exact absurd (pZ.symm.trans pR2) (by decide)
    · skip
      have nK2 : ¬ (∃ k : Nat, k ≤ yl ∧ i1 = nI k) := fun ⟨k, h1, h2⟩ => b0 (by rw [h2, ← g0, es]; exact cs_inL h1 (by omega))
      rw [g0] at hI
      exact ⟨rfl, fun h => absurd h (by decide), hI⟩
set_option maxHeartbeats 2000000 in
theorem p_mode {px : Nat → Int32} {vz : Int32} {vw : Int32} {vh : Int32} {pxc : Nat → Int32} {mdc : Nat → Int32} {vzc : Int32} {vwc : Int32} {vhc : Int32} {vkc : Int32} {pxr : Nat → Int32} {mdr : Nat → Int32} {vzr : Int32} {vwr : Int32} {vhr : Int32} {vkr : Int32} {yt : Nat → Int32} {yl : Nat} {ibc : Int32} {ilc : Int32} {igl : Int32} {ibk : Int32} {ifa : Int32} {ibd : Int32} {wd : Nat → Int32} {hg : Nat → Int32} {pix : Nat → Int32} {str : Nat → Int32} {mds : Nat → Int32} {thr : Nat → Int32} {isz : Int32} {ibl : Int32} {ile : Int32} {igr : Int32} {mbk : Int32} {ist : Int32} {ibr : Int32} {fou : Nat → Int64} {i1 : Int32} {i2 : Int32} {fouN : Nat → Int64} {ithN : Int32} {k : Int32} {bb : Int32} (hI : INV px vz vw vh pxc mdc vzc vwc vhc vkc pxr mdr vzr vwr vhr vkr yt yl ibc ilc igl ibk ifa ibd wd hg pix str mds thr isz ibl ile igr mbk ist ibr) (h1 : rx_mode vkc mdc vkr mdr fou i1 i2 fouN k) (h2 : rm_mode mbk wd hg mds thr i1 i2 ithN bb) : ithN = k ∧ (k = 0 → fouN 0 = Int32.toInt64 bb) ∧ INV px vz vw vh pxc mdc vzc vwc vhc vkc pxr mdr vzr vwr vhr vkr yt yl ibc ilc igl ibk ifa ibd wd hg pix str mds thr isz ibl ile igr mbk ist ibr := by
  have hI0 := hI
  obtain ⟨⟨z0, t0, ⟨cw0, ch0, hcw0, hch0, ew, eh, mw, mh⟩, hpx⟩, A1, A2, B1, B2, ⟨es, hyl, hyt⟩, ⟨q1, q2, q3, q4, q5⟩, hPX⟩ := hI0
  obtain ⟨nr, hr1, hr2, hr3, hr4, hr5⟩ := B2
  obtain ⟨nc, hc1, hc2, hc3, hc4⟩ := B1
  unfold rx_mode at h1
  unfold rm_mode at h2
  rcases h1 with ⟨kn, k, e0, e1, e2, a0, a1, rfl, rfl⟩ | ⟨kn, k, e0, e1, e2, a0, a1, rfl, rfl⟩ | ⟨e0, a0, rfl, rfl⟩ | ⟨e0, a0, rfl, rfl⟩
  · skip
    have pR : i1 = 1 := e0
    have pK : ∃ k : Nat, k < nr ∧ i2 = nI k := ⟨k, by have w := nI_inj (e2.symm.trans hr2) (by omega) (by omega); omega, e1⟩
    rcases h2 with ⟨nbk2, k2, g0, g1, g2, b0, b1, rfl, rfl⟩ | ⟨nbk2, g0, g1, b0, rfl, rfl⟩ | ⟨k2, cw2, ch2, g0, g1, b0, b1, b2, b3, b4, b5, rfl, rfl⟩ | ⟨cw2, ch2, g0, b0, b1, b2, b3, b4, b5, rfl, rfl⟩ | ⟨g0, b0, rfl, rfl⟩
    · skip
      have pR2 : i1 = 1 := g0
      have pK2 : ∃ k : Nat, k < nr ∧ i2 = nI k := ⟨k2, by have w := nI_inj (g2.symm.trans hr4) (by omega) (by omega); omega, g1⟩
      have w1 := nI_inj (e1.symm.trans g1) (by omega) (by omega)
      subst w1
      exact ⟨rfl, fun _ => by rw [updL0, hr5 _ (by have w := nI_inj (e2.symm.trans hr2) (by omega) (by omega); omega)], hI⟩
    · skip
      have pR2 : i1 = 1 := g0
      have nK2 : ¬ (∃ k : Nat, k < nr ∧ i2 = nI k) := fun ⟨k, h1, h2⟩ => b0 (by rw [h2, ← g1, hr4]; exact cs_inN h1 (by omega))
      first | exact absurd pS nS2 | exact absurd pS2 nS | exact absurd pV nV2 | exact absurd pV2 nV | exact absurd pI nI2 | exact absurd pI2 nI | exact absurd pK nK2 | exact absurd pK2 nK | exact absurd pT nT2 | exact absurd pT2 nT | exact absurd pL nL2 | exact absurd pL2 nL | exact absurd pG nG2 | exact absurd pG2 nG | exact absurd pQ nQ2 | exact absurd pQ2 nQ | exact absurd pM nM2 | exact absurd pM2 nM | exact absurd pR nR2 | exact absurd pR2 nR | exact absurd pZ nZ2 | exact absurd pZ2 nZ | exact absurd (pR.symm.trans pZ2) (by decide) | exact absurd (pZ.symm.trans pR2) (by decide)
    · skip
      have pZ2 : i1 = 0 := g0
      have pM2 : ∃ k : Nat, k < nc ∧ i2 = nI k := ⟨k2, by rcases hc4 with ⟨h, -⟩ | ⟨-, c1, c2, h1, h2, h3, h4, h5⟩; · exact absurd h b0
          have w1 := nI_inj (b1.symm.trans h3) (by omega) (by omega); have w2 := nI_inj (b2.symm.trans h4) (by omega) (by omega); rw [h5, ← show cw2 = c1 by omega, ← show ch2 = c2 by omega]; exact b5, g1⟩
      first | exact absurd pS nS2 | exact absurd pS2 nS | exact absurd pV nV2 | exact absurd pV2 nV | exact absurd pI nI2 | exact absurd pI2 nI | exact absurd pK nK2 | exact absurd pK2 nK | exact absurd pT nT2 | exact absurd pT2 nT | exact absurd pL nL2 | exact absurd pL2 nL | exact absurd pG nG2 | exact absurd pG2 nG | exact absurd pQ nQ2 | exact absurd pQ2 nQ | exact absurd pM nM2 | exact absurd pM2 nM | exact absurd pR nR2 | exact absurd pR2 nR | exact absurd pZ nZ2 | exact absurd pZ2 nZ | exact absurd (pR.symm.trans pZ2) (by decide) | exact absurd (pZ.symm.trans pR2) (by decide)
    · skip
      have pZ2 : i1 = 0 := g0
      have nM2 : ¬ (∃ k : Nat, k < nc ∧ i2 = nI k) := fun ⟨k, q8, q9⟩ => by rcases hc4 with ⟨h, -⟩ | ⟨-, c1, c2, h1, h2, h3, h4, h5⟩; · exact b0 h
          have w1 := nI_inj (b1.symm.trans h3) (by omega) (by omega); have w2 := nI_inj (b2.symm.trans h4) (by omega) (by omega); have w3 : cw2 * ch2 = nc := by rw [h5, show cw2 = c1 by omega, show ch2 = c2 by omega]
          exact b5 (by rw [q9, w3]; exact cs_inN q8 (by omega))
      first | exact absurd pS nS2 | exact absurd pS2 nS | exact absurd pV nV2 | exact absurd pV2 nV | exact absurd pI nI2 | exact absurd pI2 nI | exact absurd pK nK2 | exact absurd pK2 nK | exact absurd pT nT2 | exact absurd pT2 nT | exact absurd pL nL2 | exact absurd pL2 nL | exact absurd pG nG2 | exact absurd pG2 nG | exact absurd pQ nQ2 | exact absurd pQ2 nQ | exact absurd pM nM2 | exact absurd pM2 nM | exact absurd pR nR2 | exact absurd pR2 nR | exact absurd pZ nZ2 | exact absurd pZ2 nZ | exact absurd (pR.symm.trans pZ2) (by decide) | exact absurd (pZ.symm.trans pR2) (by decide)
    · skip
      have pZ2 : i1 = 0 := g0
      have nM2 : ¬ (∃ k : Nat, k < nc ∧ i2 = nI k) := fun ⟨k, q8, q9⟩ => by rcases hc4 with ⟨-, h⟩ | ⟨h, -⟩; · omega
          exact h b0
      first | exact absurd pS nS2 | exact absurd pS2 nS | exact absurd pV nV2 | exact absurd pV2 nV | exact absurd pI nI2 | exact absurd pI2 nI | exact absurd pK nK2 | exact absurd pK2 nK | exact absurd pT nT2 | exact absurd pT2 nT | exact absurd pL nL2 | exact absurd pL2 nL | exact absurd pG nG2 | exact absurd pG2 nG | exact absurd pQ nQ2 | exact absurd pQ2 nQ | exact absurd pM nM2 | exact absurd pM2 nM | exact absurd pR nR2 | exact absurd pR2 nR | exact absurd pZ nZ2 | exact absurd pZ2 nZ | exact absurd (pR.symm.trans pZ2) (by decide) | exact absurd (pZ.symm.trans pR2) (by decide)
  · skip
    have pZ : i1 = 0 := e0
    have pM : ∃ k : Nat, k < nc ∧ i2 = nI k := ⟨k, by have w := nI_inj (e2.symm.trans hc2) (by omega) (by omega); omega, e1⟩
    rcases h2 with ⟨nbk2, k2, g0, g1, g2, b0, b1, rfl, rfl⟩ | ⟨nbk2, g0, g1, b0, rfl, rfl⟩ | ⟨k2, cw2, ch2, g0, g1, b0, b1, b2, b3, b4, b5, rfl, rfl⟩ | ⟨cw2, ch2, g0, b0, b1, b2, b3, b4, b5, rfl, rfl⟩ | ⟨g0, b0, rfl, rfl⟩
    · skip
      have pR2 : i1 = 1 := g0
      have pK2 : ∃ k : Nat, k < nr ∧ i2 = nI k := ⟨k2, by have w := nI_inj (g2.symm.trans hr4) (by omega) (by omega); omega, g1⟩
      first | exact absurd pS nS2 | exact absurd pS2 nS | exact absurd pV nV2 | exact absurd pV2 nV | exact absurd pI nI2 | exact absurd pI2 nI | exact absurd pK nK2 | exact absurd pK2 nK | exact absurd pT nT2 | exact absurd pT2 nT | exact absurd pL nL2 | exact absurd pL2 nL | exact absurd pG nG2 | exact absurd pG2 nG | exact absurd pQ nQ2 | exact absurd pQ2 nQ | exact absurd pM nM2 | exact absurd pM2 nM | exact absurd pR nR2 | exact absurd pR2 nR | exact absurd pZ nZ2 | exact absurd pZ2 nZ | exact absurd (pR.symm.trans pZ2) (by decide) | exact absurd (pZ.symm.trans pR2) (by decide)
    · skip
      have pR2 : i1 = 1 := g0
      have nK2 : ¬ (∃ k : Nat, k < nr ∧ i2 = nI k) := fun ⟨k, h1, h2⟩ => b0 (by rw [h2, ← g1, hr4]; exact cs_inN h1 (by omega))
      first | exact absurd pS nS2 | exact absurd pS2 nS | exact absurd pV nV2 | exact absurd pV2 nV | exact absurd pI nI2 | exact absurd pI2 nI | exact absurd pK nK2 | exact absurd pK2 nK | exact absurd pT nT2 | exact absurd pT2 nT | exact absurd pL nL2 | exact absurd pL2 nL | exact absurd pG nG2 | exact absurd pG2 nG | exact absurd pQ nQ2 | exact absurd pQ2 nQ | exact absurd pM nM2 | exact absurd pM2 nM | exact absurd pR nR2 | exact absurd pR2 nR | exact absurd pZ nZ2 | exact absurd pZ2 nZ | exact absurd (pR.symm.trans pZ2) (by decide) | exact absurd (pZ.symm.trans pR2) (by decide)
    · skip
      have pZ2 : i1 = 0 := g0
      have pM2 : ∃ k : Nat, k < nc ∧ i2 = nI k := ⟨k2, by rcases hc4 with ⟨h, -⟩ | ⟨-, c1, c2, h1, h2, h3, h4, h5⟩; · exact absurd h b0
          have w1 := nI_inj (b1.symm.trans h3) (by omega) (by omega); have w2 := nI_inj (b2.symm.trans h4) (by omega) (by omega); rw [h5, ← show cw2 = c1 by omega, ← show ch2 = c2 by omega]; exact b5, g1⟩
      have w1 := nI_inj (e1.symm.trans g1) (by omega) (by omega)
      subst w1
      exact ⟨rfl, fun _ => by rw [updL0, hc3 _ (by have w := nI_inj (e2.symm.trans hc2) (by omega) (by omega); omega)], hI⟩
    · skip
      have pZ2 : i1 = 0 := g0
      have nM2 : ¬ (∃ k : Nat, k < nc ∧ i2 = nI k) := fun ⟨k, q8, q9⟩ => by rcases hc4 with ⟨h, -⟩ | ⟨-, c1, c2, h1, h2, h3, h4, h5⟩; · exact b0 h
          have w1 := nI_inj (b1.symm.trans h3) (by omega) (by omega); have w2 := nI_inj (b2.symm.trans h4) (by omega) (by omega); have w3 : cw2 * ch2 = nc := by rw [h5, show cw2 = c1 by omega, show ch2 = c2 by omega]
          exact b5 (by rw [q9, w3]; exact cs_inN q8 (by omega))
      first | exact absurd pS nS2 | exact absurd pS2 nS | exact absurd pV nV2 | exact absurd pV2 nV | exact absurd pI nI2 | exact absurd pI2 nI | exact absurd pK nK2 | exact absurd pK2 nK | exact absurd pT nT2 | exact absurd pT2 nT | exact absurd pL nL2 | exact absurd pL2 nL | exact absurd pG nG2 | exact absurd pG2 nG | exact absurd pQ nQ2 | exact absurd pQ2 nQ | exact absurd pM nM2 | exact absurd pM2 nM | exact absurd pR nR2 | exact absurd pR2 nR | exact absurd pZ nZ2 | exact absurd pZ2 nZ | exact absurd (pR.symm.trans pZ2) (by decide) | exact absurd (pZ.symm.trans pR2) (by decide)
    · skip
      have pZ2 : i1 = 0 := g0
      have nM2 : ¬ (∃ k : Nat, k < nc ∧ i2 = nI k) := fun ⟨k, q8, q9⟩ => by rcases hc4 with ⟨-, h⟩ | ⟨h, -⟩; · omega
          exact h b0
      first | exact absurd pS nS2 | exact absurd pS2 nS | exact absurd pV nV2 | exact absurd pV2 nV | exact absurd pI nI2 | exact absurd pI2 nI | exact absurd pK nK2 | exact absurd pK2 nK | exact absurd pT nT2 | exact absurd pT2 nT | exact absurd pL nL2 | exact absurd pL2 nL | exact absurd pG nG2 | exact absurd pG2 nG | exact absurd pQ nQ2 | exact absurd pQ2 nQ | exact absurd pM nM2 | exact absurd pM2 nM | exact absurd pR nR2 | exact absurd pR2 nR | exact absurd pZ nZ2 | exact absurd pZ2 nZ | exact absurd (pR.symm.trans pZ2) (by decide) | exact absurd (pZ.symm.trans pR2) (by decide)
  · skip
    have pR : i1 = 1 := e0
    have nK : ¬ (∃ k : Nat, k < nr ∧ i2 = nI k) := fun ⟨k, h1, h2⟩ => a0 (by rw [h2, hr2]; exact ⟨nI_pos (by omega), nI_ge h1 (by omega), nI_ge (b := 9) (by omega) (by decide)⟩)
    rcases h2 with ⟨nbk2, k2, g0, g1, g2, b0, b1, rfl, rfl⟩ | ⟨nbk2, g0, g1, b0, rfl, rfl⟩ | ⟨k2, cw2, ch2, g0, g1, b0, b1, b2, b3, b4, b5, rfl, rfl⟩ | ⟨cw2, ch2, g0, b0, b1, b2, b3, b4, b5, rfl, rfl⟩ | ⟨g0, b0, rfl, rfl⟩
    · skip
      have pR2 : i1 = 1 := g0
      have pK2 : ∃ k : Nat, k < nr ∧ i2 = nI k := ⟨k2, by have w := nI_inj (g2.symm.trans hr4) (by omega) (by omega); omega, g1⟩
      first | exact absurd pS nS2 | exact absurd pS2 nS | exact absurd pV nV2 | exact absurd pV2 nV | exact absurd pI nI2 | exact absurd pI2 nI | exact absurd pK nK2 | exact absurd pK2 nK | exact absurd pT nT2 | exact absurd pT2 nT | exact absurd pL nL2 | exact absurd pL2 nL | exact absurd pG nG2 | exact absurd pG2 nG | exact absurd pQ nQ2 | exact absurd pQ2 nQ | exact absurd pM nM2 | exact absurd pM2 nM | exact absurd pR nR2 | exact absurd pR2 nR | exact absurd pZ nZ2 | exact absurd pZ2 nZ | exact absurd (pR.symm.trans pZ2) (by decide) | exact absurd (pZ.symm.trans pR2) (by decide)
    · skip
      have pR2 : i1 = 1 := g0
      have nK2 : ¬ (∃ k : Nat, k < nr ∧ i2 = nI k) := fun ⟨k, h1, h2⟩ => b0 (by rw [h2, ← g1, hr4]; exact cs_inN h1 (by omega))
      exact ⟨rfl, fun h => absurd h (by decide), hI⟩
    · skip
      have pZ2 : i1 = 0 := g0
      have pM2 : ∃ k : Nat, k < nc ∧ i2 = nI k := ⟨k2, by rcases hc4 with ⟨h, -⟩ | ⟨-, c1, c2, h1, h2, h3, h4, h5⟩; · exact absurd h b0
          have w1 := nI_inj (b1.symm.trans h3) (by omega) (by omega); have w2 := nI_inj (b2.symm.trans h4) (by omega) (by omega); rw [h5, ← show cw2 = c1 by omega, ← show ch2 = c2 by omega]; exact b5, g1⟩
      first | exact absurd pS nS2 | exact absurd pS2 nS | exact absurd pV nV2 | exact absurd pV2 nV | exact absurd pI nI2 | exact absurd pI2 nI | exact absurd pK nK2 | exact absurd pK2 nK | exact absurd pT nT2 | exact absurd pT2 nT | exact absurd pL nL2 | exact absurd pL2 nL | exact absurd pG nG2 | exact absurd pG2 nG | exact absurd pQ nQ2 | exact absurd pQ2 nQ | exact absurd pM nM2 | exact absurd pM2 nM | exact absurd pR nR2 | exact absurd pR2 nR | exact absurd pZ nZ2 | exact absurd pZ2 nZ | exact absurd (pR.symm.trans pZ2) (by decide) | exact absurd (pZ.symm.trans pR2) (by decide)
    · skip
      have pZ2 : i1 = 0 := g0
      have nM2 : ¬ (∃ k : Nat, k < nc ∧ i2 = nI k) := fun ⟨k, q8, q9⟩ => by rcases hc4 with ⟨h, -⟩ | ⟨-, c1, c2, h1, h2, h3, h4, h5⟩; · exact b0 h
          have w1 := nI_inj (b1.symm.trans h3) (by omega) (by omega); have w2 := nI_inj (b2.symm.trans h4) (by omega) (by omega); have w3 : cw2 * ch2 = nc := by rw [h5, show cw2 = c1 by omega, show ch2 = c2 by omega]
          exact b5 (by rw [q9, w3]; exact cs_inN q8 (by omega))
      first | exact absurd pS nS2 | exact absurd pS2 nS | exact absurd pV nV2 | exact absurd pV2 nV | exact absurd pI nI2 | exact absurd pI2 nI | exact absurd pK nK2 | exact absurd pK2 nK | exact absurd pT nT2 | exact absurd pT2 nT | exact absurd pL nL2 | exact absurd pL2 nL | exact absurd pG nG2 | exact absurd pG2 nG | exact absurd pQ nQ2 | exact absurd pQ2 nQ | exact absurd pM nM2 | exact absurd pM2 nM | exact absurd pR nR2 | exact absurd pR2 nR | exact absurd pZ nZ2 | exact absurd pZ2 nZ | exact absurd (pR.symm.trans pZ2) (by decide) | exact absurd (pZ.symm.trans pR2) (by decide)
    · skip
      have pZ2 : i1 = 0 := g0
      have nM2 : ¬ (∃ k : Nat, k < nc ∧ i2 = nI k) := fun ⟨k, q8, q9⟩ => by rcases hc4 with ⟨-, h⟩ | ⟨h, -⟩; · omega
          exact h b0
      first | exact absurd pS nS2 | exact absurd pS2 nS | exact absurd pV nV2 | exact absurd pV2 nV | exact absurd pI nI2 | exact absurd pI2 nI | exact absurd pK nK2 | exact absurd pK2 nK | exact absurd pT nT2 | exact absurd pT2 nT | exact absurd pL nL2 | exact absurd pL2 nL | exact absurd pG nG2 | exact absurd pG2 nG | exact absurd pQ nQ2 | exact absurd pQ2 nQ | exact absurd pM nM2 | exact absurd pM2 nM | exact absurd pR nR2 | exact absurd pR2 nR | exact absurd pZ nZ2 | exact absurd pZ2 nZ | exact absurd (pR.symm.trans pZ2) (by decide) | exact absurd (pZ.symm.trans pR2) (by decide)
  · skip
    have pZ : i1 = 0 := e0
    have nM : ¬ (∃ k : Nat, k < nc ∧ i2 = nI k) := fun ⟨k, h1, h2⟩ => a0 (by rw [h2, hc2]; exact ⟨nI_pos (by omega), nI_ge h1 (by omega), nI_ge (b := 9) (by omega) (by decide)⟩)
    rcases h2 with ⟨nbk2, k2, g0, g1, g2, b0, b1, rfl, rfl⟩ | ⟨nbk2, g0, g1, b0, rfl, rfl⟩ | ⟨k2, cw2, ch2, g0, g1, b0, b1, b2, b3, b4, b5, rfl, rfl⟩ | ⟨cw2, ch2, g0, b0, b1, b2, b3, b4, b5, rfl, rfl⟩ | ⟨g0, b0, rfl, rfl⟩
    · skip
      have pR2 : i1 = 1 := g0
      have pK2 : ∃ k : Nat, k < nr ∧ i2 = nI k := ⟨k2, by have w := nI_inj (g2.symm.trans hr4) (by omega) (by omega); omega, g1⟩
      first | exact absurd pS nS2 | exact absurd pS2 nS | exact absurd pV nV2 | exact absurd pV2 nV | exact absurd pI nI2 | exact absurd pI2 nI | exact absurd pK nK2 | exact absurd pK2 nK | exact absurd pT nT2 | exact absurd pT2 nT | exact absurd pL nL2 | exact absurd pL2 nL | exact absurd pG nG2 | exact absurd pG2 nG | exact absurd pQ nQ2 | exact absurd pQ2 nQ | exact absurd pM nM2 | exact absurd pM2 nM | exact absurd pR nR2 | exact absurd pR2 nR | exact absurd pZ nZ2 | exact absurd pZ2 nZ | exact absurd (pR.symm.trans pZ2) (by decide) | exact absurd (pZ.symm.trans pR2) (by decide)
    · skip
      have pR2 : i1 = 1 := g0
      have nK2 : ¬ (∃ k : Nat, k < nr ∧ i2 = nI k) := fun ⟨k, h1, h2⟩ => b0 (by rw [h2, ← g1, hr4]; exact cs_inN h1 (by omega))
      first | exact absurd pS nS2 | exact absurd pS2 nS | exact absurd pV nV2 | exact absurd pV2 nV | exact absurd pI nI2 | exact absurd pI2 nI | exact absurd pK nK2 | exact absurd pK2 nK | exact absurd pT nT2 | exact absurd pT2 nT | exact absurd pL nL2 | exact absurd pL2 nL | exact absurd pG nG2 | exact absurd pG2 nG | exact absurd pQ nQ2 | exact absurd pQ2 nQ | exact absurd pM nM2 | exact absurd pM2 nM | exact absurd pR nR2 | exact absurd pR2 nR | exact absurd pZ nZ2 | exact absurd pZ2 nZ | exact absurd (pR.symm.trans pZ2) (by decide) | exact absurd (pZ.symm.trans pR2) (by decide)
    · skip
      have pZ2 : i1 = 0 := g0
      have pM2 : ∃ k : Nat, k < nc ∧ i2 = nI k := ⟨k2, by rcases hc4 with ⟨h, -⟩ | ⟨-, c1, c2, h1, h2, h3, h4, h5⟩; · exact absurd h b0
          have w1 := nI_inj (b1.symm.trans h3) (by omega) (by omega); have w2 := nI_inj (b2.symm.trans h4) (by omega) (by omega); rw [h5, ← show cw2 = c1 by omega, ← show ch2 = c2 by omega]; exact b5, g1⟩
      first | exact absurd pS nS2 | exact absurd pS2 nS | exact absurd pV nV2 | exact absurd pV2 nV | exact absurd pI nI2 | exact absurd pI2 nI | exact absurd pK nK2 | exact absurd pK2 nK | exact absurd pT nT2 | exact absurd pT2 nT | exact absurd pL nL2 | exact absurd pL2 nL | exact absurd pG nG2 | exact absurd pG2 nG | exact absurd pQ nQ2 | exact absurd pQ2 nQ | exact absurd pM nM2 | exact absurd pM2 nM | exact absurd pR nR2 | exact absurd pR2 nR | exact absurd pZ nZ2 | exact absurd pZ2 nZ | exact absurd (pR.symm.trans pZ2) (by decide) | exact absurd (pZ.symm.trans pR2) (by decide)
    · skip
      have pZ2 : i1 = 0 := g0
      have nM2 : ¬ (∃ k : Nat, k < nc ∧ i2 = nI k) := fun ⟨k, q8, q9⟩ => by rcases hc4 with ⟨h, -⟩ | ⟨-, c1, c2, h1, h2, h3, h4, h5⟩; · exact b0 h
          have w1 := nI_inj (b1.symm.trans h3) (by omega) (by omega); have w2 := nI_inj (b2.symm.trans h4) (by omega) (by omega); have w3 : cw2 * ch2 = nc := by rw [h5, show cw2 = c1 by omega, show ch2 = c2 by omega]
          exact b5 (by rw [q9, w3]; exact cs_inN q8 (by omega))
      exact ⟨rfl, fun h => absurd h (by decide), hI⟩
    · skip
      have pZ2 : i1 = 0 := g0
      have nM2 : ¬ (∃ k : Nat, k < nc ∧ i2 = nI k) := fun ⟨k, q8, q9⟩ => by rcases hc4 with ⟨-, h⟩ | ⟨h, -⟩; · omega
          exact h b0
      exact ⟨rfl, fun h => absurd h (by decide), hI⟩
set_option maxHeartbeats 2000000 in
theorem p_decode {px : Nat → Int32} {vz : Int32} {vw : Int32} {vh : Int32} {pxc : Nat → Int32} {mdc : Nat → Int32} {vzc : Int32} {vwc : Int32} {vhc : Int32} {vkc : Int32} {pxr : Nat → Int32} {mdr : Nat → Int32} {vzr : Int32} {vwr : Int32} {vhr : Int32} {vkr : Int32} {yt : Nat → Int32} {yl : Nat} {ibc : Int32} {ilc : Int32} {igl : Int32} {ibk : Int32} {ifa : Int32} {ibd : Int32} {wd : Nat → Int32} {hg : Nat → Int32} {pix : Nat → Int32} {str : Nat → Int32} {mds : Nat → Int32} {thr : Nat → Int32} {isz : Int32} {ibl : Int32} {ile : Int32} {igr : Int32} {mbk : Int32} {ist : Int32} {ibr : Int32} {boR : Int32} {vrR : Int32} {vcR : Int32} {crR : Int32} {abR : Nat → Int32} {lfR : Nat → Int32} {foR : Nat → Int32} {lvR : Nat → Int32} {wkR : Nat → Int32} {usR : Int32} {unR : Int32} {us2R : Int32} {un2R : Int32} {yp : Nat} {fou : Nat → Int64} {icoM : Int32} {iclM : Int32} {irwM : Int32} {ibiM : Int32} {ienM : Int32} {itrM : Int32} {bkM : Nat → Int32} {lvM : Nat → Int32} {tdM : Nat → Int32} {abM : Nat → Int32} {lfM : Nat → Int32} {suM : Nat → Int32} {mnM : Nat → Int32} {ibkN : Int32} {ifaN : Int32} {ibdN : Int32} {boRN : Int32} {vrRN : Int32} {vcRN : Int32} {crRN : Int32} {abRN : Nat → Int32} {lfRN : Nat → Int32} {foRN : Nat → Int32} {lvRN : Nat → Int32} {wkRN : Nat → Int32} {usRN : Int32} {unRN : Int32} {us2RN : Int32} {un2RN : Int32} {ypN : Nat} {vzrN : Int32} {vwrN : Int32} {vhrN : Int32} {vkrN : Int32} {pxrN : Nat → Int32} {mdrN : Nat → Int32} {fouN : Nat → Int64} {ithN : Int32} {icoMN : Int32} {iclMN : Int32} {irwMN : Int32} {ibiMN : Int32} {ienMN : Int32} {itrMN : Int32} {mbkN : Int32} {istN : Int32} {ibrN : Int32} {wdN : Nat → Int32} {hgN : Nat → Int32} {pixN : Nat → Int32} {bkMN : Nat → Int32} {lvMN : Nat → Int32} {tdMN : Nat → Int32} {abMN : Nat → Int32} {lfMN : Nat → Int32} {mdsN : Nat → Int32} {suMN : Nat → Int32} {mnMN : Nat → Int32} {thrN : Nat → Int32} {k : Int32} {bb : Int32} (hI : INV px vz vw vh pxc mdc vzc vwc vhc vkc pxr mdr vzr vwr vhr vkr yt yl ibc ilc igl ibk ifa ibd wd hg pix str mds thr isz ibl ile igr mbk ist ibr) (h1 : rx_decode ibk ifa ibd boR vrR vcR crR abR lfR foR lvR wkR usR unR us2R un2R yl yp yt vzr vwr vhr vkr pxr mdr fou ibkN ifaN ibdN boRN vrRN vcRN crRN abRN lfRN foRN lvRN wkRN usRN unRN us2RN un2RN ypN vzrN vwrN vhrN vkrN pxrN mdrN fouN k) (h2 : rm_decode isz icoM iclM irwM ibiM ienM itrM mbk ist ibr wd hg pix str bkM lvM tdM abM lfM mds suM mnM thr ithN icoMN iclMN irwMN ibiMN ienMN itrMN mbkN istN ibrN wdN hgN pixN bkMN lvMN tdMN abMN lfMN mdsN suMN mnMN thrN bb) : ithN = k ∧ (k = 0 → fouN 0 = Int32.toInt64 bb) ∧ INV px vz vw vh pxc mdc vzc vwc vhc vkc pxrN mdrN vzrN vwrN vhrN vkrN yt yl ibc ilc igl ibkN ifaN ibdN wdN hgN pixN str mdsN thrN isz ibl ile igr mbkN istN ibrN := by
  have hI0 := hI
  obtain ⟨⟨z0, t0, ⟨cw0, ch0, hcw0, hch0, ew, eh, mw, mh⟩, hpx⟩, A1, A2, B1, B2, ⟨es, hyl, hyt⟩, ⟨q1, q2, q3, q4, q5⟩, hPX⟩ := hI0
  unfold rx_decode at h1
  unfold rm_decode at h2
  rcases h1 with ⟨cw, ch, px0, ab', lf', fo', wk', vr', vc', cr', a0, a1, a2, a3, a4, a5, fa0, rfl, rfl, rfl, rfl, rfl, rfl, rfl, rfl, rfl, rfl, rfl, rfl, rfl, rfl, rfl, rfl, rfl, rfl, rfl, rfl, rfl, rfl, rfl, rfl, rfl⟩ | ⟨a0, rfl, rfl, rfl, rfl, rfl, rfl, rfl, rfl, rfl, rfl, rfl, rfl, rfl, rfl, rfl, rfl, rfl, rfl, rfl, rfl, rfl, rfl, rfl, rfl, rfl⟩
  · skip
    have pG : ∃ cw ch : Nat, 3 ≤ yl ∧ (1 ≤ cw ∧ cw ≤ 3) ∧ (1 ≤ ch ∧ ch ≤ 3) ∧ yt 0 = nI cw ∧ yt 1 = nI ch ∧ coarP (yt 2) := ⟨cw, ch, a5.1, a0, a1, a2, a3, a4⟩
    rcases h2 with ⟨ns2, cw2, ch2, pix2Q, mdsQ, suQ, mnQ, su0Q, mn0Q, bkQ, lvQ, tdQ, abQ, lfQ, coQ, clQ, roQ, ttQ, brdQ, qbQ, nbkQ, bQ, g0, b0, b1, b2, b3, b4, b5, b6, fb0, fb1, fb2, fb3, rfl, rfl, rfl, rfl, rfl, rfl, rfl, rfl, rfl, rfl, rfl, rfl, rfl, rfl, rfl, rfl, rfl, rfl, rfl, rfl, rfl, rfl, rfl⟩ | ⟨ns2, g0, b0, rfl, rfl, rfl, rfl, rfl, rfl, rfl, rfl, rfl, rfl, rfl, rfl, rfl, rfl, rfl, rfl, rfl, rfl, rfl, rfl, rfl, rfl, rfl⟩
    · skip
      have pG2 : ∃ cw ch : Nat, 3 ≤ yl ∧ (1 ≤ cw ∧ cw ≤ 3) ∧ (1 ≤ ch ∧ ch ≤ 3) ∧ yt 0 = nI cw ∧ yt 1 = nI ch ∧ coarP (yt 2) := by have w := nI_inj (g0.symm.trans es) (by omega) (by omega); exact ⟨cw2, ch2, by omega, b4, b5, by rw [(hyt 0 (by omega)).1]; exact b1, by rw [(hyt 1 (by omega)).1]; exact b2, by rw [(hyt 2 (by omega)).1]; exact b3⟩
      have w := nI_inj (g0.symm.trans es) (by omega) (by omega)
      subst w
      have w1 := nI_inj (a2.symm.trans ((hyt 0 (by omega)).1.trans b1)) (by omega) (by omega)
      have w2 := nI_inj (a3.symm.trans ((hyt 1 (by omega)).1.trans b2)) (by omega) (by omega)
      subst w1
      subst w2
      obtain ⟨d1, d2, d3, d4, d5, d6, d7, d8⟩ := D_fin (px0 := px0) (lv := lvR) (md := mdr) (fun j hj => (hyt j hj).1) b0.1 b4.2 b5.2 (by omega) fb0.1 fb0.2 fb1 fb2.1 fb2.2
      exact ⟨rfl, fun _ => by rw [updL0, d2], inv_dec b4 b5 d1 d2 d3 d4 d5 d6 d7 fb3.1 fb3.2 hI⟩
    · skip
      have nG2 : ¬ (∃ cw ch : Nat, 3 ≤ yl ∧ (1 ≤ cw ∧ cw ≤ 3) ∧ (1 ≤ ch ∧ ch ≤ 3) ∧ yt 0 = nI cw ∧ yt 1 = nI ch ∧ coarP (yt 2)) := fun ⟨c1, c2, h0, h1, h2, h3, h4, h5⟩ => b0 (by rw [← g0, es, ← (hyt 0 (by omega)).1, ← (hyt 1 (by omega)).1, ← (hyt 2 (by omega)).1]; exact ⟨fun q => absurd ((nI_ltI (a := yl) (b := 3) (by omega) (by decide)).mp q) (by omega), cs_13 h3 h1, cs_13 h4 h2, h5⟩)
      first | exact absurd pS nS2 | exact absurd pS2 nS | exact absurd pV nV2 | exact absurd pV2 nV | exact absurd pI nI2 | exact absurd pI2 nI | exact absurd pK nK2 | exact absurd pK2 nK | exact absurd pT nT2 | exact absurd pT2 nT | exact absurd pL nL2 | exact absurd pL2 nL | exact absurd pG nG2 | exact absurd pG2 nG | exact absurd pQ nQ2 | exact absurd pQ2 nQ | exact absurd pM nM2 | exact absurd pM2 nM | exact absurd pR nR2 | exact absurd pR2 nR | exact absurd pZ nZ2 | exact absurd pZ2 nZ | exact absurd (pR.symm.trans pZ2) (by decide) | exact absurd (pZ.symm.trans pR2) (by decide)
  · skip
    have nG : ¬ (∃ cw ch : Nat, 3 ≤ yl ∧ (1 ≤ cw ∧ cw ≤ 3) ∧ (1 ≤ ch ∧ ch ≤ 3) ∧ yt 0 = nI cw ∧ yt 1 = nI ch ∧ coarP (yt 2)) := fun ⟨c1, c2, h0, h1, h2, h3, h4, h5⟩ => a0 ⟨fun q => absurd ((nI_ltI (a := yl) (b := 3) (by omega) (by decide)).mp q) (by omega), cs_s4 h3 h1, cs_s4 h4 h2, h5⟩
    rcases h2 with ⟨ns2, cw2, ch2, pix2Q, mdsQ, suQ, mnQ, su0Q, mn0Q, bkQ, lvQ, tdQ, abQ, lfQ, coQ, clQ, roQ, ttQ, brdQ, qbQ, nbkQ, bQ, g0, b0, b1, b2, b3, b4, b5, b6, fb0, fb1, fb2, fb3, rfl, rfl, rfl, rfl, rfl, rfl, rfl, rfl, rfl, rfl, rfl, rfl, rfl, rfl, rfl, rfl, rfl, rfl, rfl, rfl, rfl, rfl, rfl⟩ | ⟨ns2, g0, b0, rfl, rfl, rfl, rfl, rfl, rfl, rfl, rfl, rfl, rfl, rfl, rfl, rfl, rfl, rfl, rfl, rfl, rfl, rfl, rfl, rfl, rfl, rfl⟩
    · skip
      have pG2 : ∃ cw ch : Nat, 3 ≤ yl ∧ (1 ≤ cw ∧ cw ≤ 3) ∧ (1 ≤ ch ∧ ch ≤ 3) ∧ yt 0 = nI cw ∧ yt 1 = nI ch ∧ coarP (yt 2) := by have w := nI_inj (g0.symm.trans es) (by omega) (by omega); exact ⟨cw2, ch2, by omega, b4, b5, by rw [(hyt 0 (by omega)).1]; exact b1, by rw [(hyt 1 (by omega)).1]; exact b2, by rw [(hyt 2 (by omega)).1]; exact b3⟩
      first | exact absurd pS nS2 | exact absurd pS2 nS | exact absurd pV nV2 | exact absurd pV2 nV | exact absurd pI nI2 | exact absurd pI2 nI | exact absurd pK nK2 | exact absurd pK2 nK | exact absurd pT nT2 | exact absurd pT2 nT | exact absurd pL nL2 | exact absurd pL2 nL | exact absurd pG nG2 | exact absurd pG2 nG | exact absurd pQ nQ2 | exact absurd pQ2 nQ | exact absurd pM nM2 | exact absurd pM2 nM | exact absurd pR nR2 | exact absurd pR2 nR | exact absurd pZ nZ2 | exact absurd pZ2 nZ | exact absurd (pR.symm.trans pZ2) (by decide) | exact absurd (pZ.symm.trans pR2) (by decide)
    · skip
      have nG2 : ¬ (∃ cw ch : Nat, 3 ≤ yl ∧ (1 ≤ cw ∧ cw ≤ 3) ∧ (1 ≤ ch ∧ ch ≤ 3) ∧ yt 0 = nI cw ∧ yt 1 = nI ch ∧ coarP (yt 2)) := fun ⟨c1, c2, h0, h1, h2, h3, h4, h5⟩ => b0 (by rw [← g0, es, ← (hyt 0 (by omega)).1, ← (hyt 1 (by omega)).1, ← (hyt 2 (by omega)).1]; exact ⟨fun q => absurd ((nI_ltI (a := yl) (b := 3) (by omega) (by decide)).mp q) (by omega), cs_13 h3 h1, cs_13 h4 h2, h5⟩)
      exact ⟨rfl, fun h => absurd h (by decide), hI⟩
set_option maxHeartbeats 2000000 in
theorem p_encode {px : Nat → Int32} {vz : Int32} {vw : Int32} {vh : Int32} {pxc : Nat → Int32} {mdc : Nat → Int32} {vzc : Int32} {vwc : Int32} {vhc : Int32} {vkc : Int32} {pxr : Nat → Int32} {mdr : Nat → Int32} {vzr : Int32} {vwr : Int32} {vhr : Int32} {vkr : Int32} {yt : Nat → Int32} {yl : Nat} {ibc : Int32} {ilc : Int32} {igl : Int32} {ibk : Int32} {ifa : Int32} {ibd : Int32} {wd : Nat → Int32} {hg : Nat → Int32} {pix : Nat → Int32} {str : Nat → Int32} {mds : Nat → Int32} {thr : Nat → Int32} {isz : Int32} {ibl : Int32} {ile : Int32} {igr : Int32} {mbk : Int32} {ist : Int32} {ibr : Int32} {nz : Int32} {gr : Int32} {vzd : Int32} {vwd : Int32} {vhd : Int32} {vkd : Int32} {pxd : Nat → Int32} {mdd : Nat → Int32} {nb : Nat} {bt : Nat → Int32} {vr : Int32} {vc : Int32} {vcr : Int32} {ab : Nat → Int32} {lf : Nat → Int32} {fo : Nat → Int32} {lv : Nat → Int32} {wk : Nat → Int32} {vs : Int32} {vn : Int32} {vs2 : Int32} {vn2 : Int32} {fou : Nat → Int64} {i1 : Int32} {icoM : Int32} {iclM : Int32} {irwM : Int32} {ibiM : Int32} {ladM : Nat → Int32} {bkM : Nat → Int32} {lvM : Nat → Int32} {tdM : Nat → Int32} {abM : Nat → Int32} {lfM : Nat → Int32} {nmdM : Nat → Int32} {suM : Nat → Int32} {mnM : Nat → Int32} {ibcN : Int32} {ilcN : Int32} {iglN : Int32} {nzN : Int32} {grN : Int32} {vzdN : Int32} {vwdN : Int32} {vhdN : Int32} {vkdN : Int32} {pxdN : Nat → Int32} {mddN : Nat → Int32} {nbN : Nat} {btN : Nat → Int32} {vrN : Int32} {vcN : Int32} {vcrN : Int32} {abN : Nat → Int32} {lfN : Nat → Int32} {foN : Nat → Int32} {lvN : Nat → Int32} {wkN : Nat → Int32} {vsN : Int32} {vnN : Int32} {vs2N : Int32} {vn2N : Int32} {vzcN : Int32} {vwcN : Int32} {vhcN : Int32} {vkcN : Int32} {pxcN : Nat → Int32} {mdcN : Nat → Int32} {ylN : Nat} {ytN : Nat → Int32} {fouN : Nat → Int64} {iszN : Int32} {ithN : Int32} {icoMN : Int32} {iclMN : Int32} {irwMN : Int32} {ibiMN : Int32} {iblN : Int32} {ileN : Int32} {igrN : Int32} {wdN : Nat → Int32} {hgN : Nat → Int32} {pixN : Nat → Int32} {strN : Nat → Int32} {ladMN : Nat → Int32} {bkMN : Nat → Int32} {lvMN : Nat → Int32} {tdMN : Nat → Int32} {abMN : Nat → Int32} {lfMN : Nat → Int32} {mdsN : Nat → Int32} {nmdMN : Nat → Int32} {suMN : Nat → Int32} {mnMN : Nat → Int32} {thrN : Nat → Int32} {k : Int32} {bb : Int32} (hI : INV px vz vw vh pxc mdc vzc vwc vhc vkc pxr mdr vzr vwr vhr vkr yt yl ibc ilc igl ibk ifa ibd wd hg pix str mds thr isz ibl ile igr mbk ist ibr) (h1 : rx_encode ibc ilc igl nz gr vzd vwd vhd vkd pxd mdd nb bt vr vc vcr ab lf fo lv wk vs vn vs2 vn2 vw vh px vzc vwc vhc vkc pxc mdc yl yt fou i1 ibcN ilcN iglN nzN grN vzdN vwdN vhdN vkdN pxdN mddN nbN btN vrN vcN vcrN abN lfN foN lvN wkN vsN vnN vs2N vn2N vzcN vwcN vhcN vkcN pxcN mdcN ylN ytN fouN k) (h2 : rm_encode isz icoM iclM irwM ibiM ibl ile igr wd hg pix str ladM bkM lvM tdM abM lfM mds nmdM suM mnM thr i1 iszN ithN icoMN iclMN irwMN ibiMN iblN ileN igrN wdN hgN pixN strN ladMN bkMN lvMN tdMN abMN lfMN mdsN nmdMN suMN mnMN thrN bb) : ithN = k ∧ (k = 0 → fouN 0 = Int32.toInt64 bb) ∧ INV px vz vw vh pxcN mdcN vzcN vwcN vhcN vkcN pxr mdr vzr vwr vhr vkr ytN ylN ibcN ilcN iglN ibk ifa ibd wdN hgN pixN strN mdsN thrN iszN iblN ileN igrN mbk ist ibr := by
  have hI0 := hI
  obtain ⟨⟨z0, t0, ⟨cw0, ch0, hcw0, hch0, ew, eh, mw, mh⟩, hpx⟩, A1, A2, B1, B2, ⟨es, hyl, hyt⟩, ⟨q1, q2, q3, q4, q5⟩, hPX⟩ := hI0
  unfold rx_encode at h1
  unfold rm_encode at h2
  rcases h1 with ⟨cw, ch, px0, bt0, ab', lf', fo', lv', wk', vr', vc', cr', pxc', mdc', yt', e0, e1, a0, a1, a2, a3, a4, fa0, fa1, fa2, fa3, fa4, rfl, rfl, rfl, rfl, rfl, rfl, rfl, rfl, rfl, rfl, rfl, rfl, rfl, rfl, rfl, rfl, rfl, rfl, rfl, rfl, rfl, rfl, rfl, rfl, rfl, rfl, rfl, rfl, rfl, rfl, rfl, rfl, rfl, rfl, rfl⟩ | ⟨a0, rfl, rfl, rfl, rfl, rfl, rfl, rfl, rfl, rfl, rfl, rfl, rfl, rfl, rfl, rfl, rfl, rfl, rfl, rfl, rfl, rfl, rfl, rfl, rfl, rfl, rfl, rfl, rfl, rfl, rfl, rfl, rfl, rfl, rfl, rfl⟩ | ⟨cw, ch, px0, bt0, ab', lf', fo', lv', wk', vr', vc', cr', e0, e1, a0, a1, a2, a3, a4, fa0, fa1, rfl, rfl, rfl, rfl, rfl, rfl, rfl, rfl, rfl, rfl, rfl, rfl, rfl, rfl, rfl, rfl, rfl, rfl, rfl, rfl, rfl, rfl, rfl, rfl, rfl, rfl, rfl, rfl, rfl, rfl, rfl, rfl, rfl, rfl, rfl⟩
  · skip
    have pQ : coarP i1 := a3
    rcases h2 with ⟨cw2, ch2, wdQ, hgQ, pixQ, strQ, ladQ, bkQ, lvQ, tdQ, abQ, lfQ, mdsQ, nmdQ, suQ, mnQ, thrQ, pix2Q, su0Q, mn0Q, iszQ, ithQ, coQ, clQ, roQ, iblQ, ileQ, igrQ, l2Q, g2Q, rvQ, nbQ, b0, b1, b2, b3, b4, b5, fb0, fb1, fb2, fb3, rfl, rfl, rfl, rfl, rfl, rfl, rfl, rfl, rfl, rfl, rfl, rfl, rfl, rfl, rfl, rfl, rfl, rfl, rfl, rfl, rfl, rfl, rfl, rfl, rfl⟩ | ⟨b0, rfl, rfl, rfl, rfl, rfl, rfl, rfl, rfl, rfl, rfl, rfl, rfl, rfl, rfl, rfl, rfl, rfl, rfl, rfl, rfl, rfl, rfl, rfl, rfl, rfl⟩
    · skip
      have pQ2 : coarP i1 := b0
      have w1 := nI_inj (e0.symm.trans (ew.trans (mw.symm.trans b1))) (by omega) (by omega)
      have w2 := nI_inj (e1.symm.trans (eh.trans (mh.symm.trans b2))) (by omega) (by omega)
      have w3 : cw = cw2 := by omega
      have w4 : ch = ch2 := by omega
      have w5 := nI_inj (e0.symm.trans ew) (by omega) (by omega)
      have w6 := nI_inj (e1.symm.trans eh) (by omega) (by omega)
      subst w3
      subst w4
      have hs := Sim_all a0 a1 a3 (fun j hj => by rw [hpx j hj]; unfold oP; congr 1; omega) (Sim_0 (px0 := px0) (md := mdd) (cw := cw) (ch := ch) (q := i1) hPX fa1 fb0.1 fb0.2) (cw * ch) (Nat.le_refl _) _ fb1
      have hsb := sb_ERel (st0 := (_, _, pwF i1 8 (pwF (nI ch) 8 (pwF (nI cw) 8 _ 0) (0 + 8)) (0 + 8 + 8), 24, _, _, 0, 0)) (sb_pwF 8 (sb_pwF 8 (sb_pwF 8 (fun i hi => absurd hi (by omega))))) _ _ fb1
      obtain ⟨s1, s2, s3, ⟨s4, s5, -⟩, s6, s7, -, -⟩ := hs
      rcases fb3 with ⟨v1, rfl, rfl, rfl, rfl, rfl, rfl, rfl, rfl, rfl, rfl, rfl, rfl⟩ | ⟨v1, -⟩
      · exact ⟨rfl, fun _ => by rw [updL0, s5], inv_enc ⟨by omega, a0⟩ ⟨by omega, a1⟩ b1 b2 fa2 fa3 fa4 s1 s2 s3 s4 s5 s6 s7 hsb fb2.1 v1 hI⟩
      · exact absurd (by rw [← s5]; exact a4 _ _ fa0 fa1) v1
    · skip
      have nQ2 : ¬ (coarP i1) := b0
      first | exact absurd pS nS2 | exact absurd pS2 nS | exact absurd pV nV2 | exact absurd pV2 nV | exact absurd pI nI2 | exact absurd pI2 nI | exact absurd pK nK2 | exact absurd pK2 nK | exact absurd pT nT2 | exact absurd pT2 nT | exact absurd pL nL2 | exact absurd pL2 nL | exact absurd pG nG2 | exact absurd pG2 nG | exact absurd pQ nQ2 | exact absurd pQ2 nQ | exact absurd pM nM2 | exact absurd pM2 nM | exact absurd pR nR2 | exact absurd pR2 nR | exact absurd pZ nZ2 | exact absurd pZ2 nZ | exact absurd (pR.symm.trans pZ2) (by decide) | exact absurd (pZ.symm.trans pR2) (by decide)
  · skip
    have nQ : ¬ (coarP i1) := a0
    rcases h2 with ⟨cw2, ch2, wdQ, hgQ, pixQ, strQ, ladQ, bkQ, lvQ, tdQ, abQ, lfQ, mdsQ, nmdQ, suQ, mnQ, thrQ, pix2Q, su0Q, mn0Q, iszQ, ithQ, coQ, clQ, roQ, iblQ, ileQ, igrQ, l2Q, g2Q, rvQ, nbQ, b0, b1, b2, b3, b4, b5, fb0, fb1, fb2, fb3, rfl, rfl, rfl, rfl, rfl, rfl, rfl, rfl, rfl, rfl, rfl, rfl, rfl, rfl, rfl, rfl, rfl, rfl, rfl, rfl, rfl, rfl, rfl, rfl, rfl⟩ | ⟨b0, rfl, rfl, rfl, rfl, rfl, rfl, rfl, rfl, rfl, rfl, rfl, rfl, rfl, rfl, rfl, rfl, rfl, rfl, rfl, rfl, rfl, rfl, rfl, rfl, rfl⟩
    · skip
      have pQ2 : coarP i1 := b0
      first | exact absurd pS nS2 | exact absurd pS2 nS | exact absurd pV nV2 | exact absurd pV2 nV | exact absurd pI nI2 | exact absurd pI2 nI | exact absurd pK nK2 | exact absurd pK2 nK | exact absurd pT nT2 | exact absurd pT2 nT | exact absurd pL nL2 | exact absurd pL2 nL | exact absurd pG nG2 | exact absurd pG2 nG | exact absurd pQ nQ2 | exact absurd pQ2 nQ | exact absurd pM nM2 | exact absurd pM2 nM | exact absurd pR nR2 | exact absurd pR2 nR | exact absurd pZ nZ2 | exact absurd pZ2 nZ | exact absurd (pR.symm.trans pZ2) (by decide) | exact absurd (pZ.symm.trans pR2) (by decide)
    · skip
      have nQ2 : ¬ (coarP i1) := b0
      exact ⟨rfl, fun h => absurd h (by decide), hI⟩
  · skip
    have pQ : coarP i1 := a3
    rcases h2 with ⟨cw2, ch2, wdQ, hgQ, pixQ, strQ, ladQ, bkQ, lvQ, tdQ, abQ, lfQ, mdsQ, nmdQ, suQ, mnQ, thrQ, pix2Q, su0Q, mn0Q, iszQ, ithQ, coQ, clQ, roQ, iblQ, ileQ, igrQ, l2Q, g2Q, rvQ, nbQ, b0, b1, b2, b3, b4, b5, fb0, fb1, fb2, fb3, rfl, rfl, rfl, rfl, rfl, rfl, rfl, rfl, rfl, rfl, rfl, rfl, rfl, rfl, rfl, rfl, rfl, rfl, rfl, rfl, rfl, rfl, rfl, rfl, rfl⟩ | ⟨b0, rfl, rfl, rfl, rfl, rfl, rfl, rfl, rfl, rfl, rfl, rfl, rfl, rfl, rfl, rfl, rfl, rfl, rfl, rfl, rfl, rfl, rfl, rfl, rfl, rfl⟩
    · skip
      have pQ2 : coarP i1 := b0
      have w1 := nI_inj (e0.symm.trans (ew.trans (mw.symm.trans b1))) (by omega) (by omega)
      have w2 := nI_inj (e1.symm.trans (eh.trans (mh.symm.trans b2))) (by omega) (by omega)
      have w3 : cw = cw2 := by omega
      have w4 : ch = ch2 := by omega
      have w5 := nI_inj (e0.symm.trans ew) (by omega) (by omega)
      have w6 := nI_inj (e1.symm.trans eh) (by omega) (by omega)
      subst w3
      subst w4
      have hs := Sim_all a0 a1 a3 (fun j hj => by rw [hpx j hj]; unfold oP; congr 1; omega) (Sim_0 (px0 := px0) (md := mdd) (cw := cw) (ch := ch) (q := i1) hPX fa1 fb0.1 fb0.2) (cw * ch) (Nat.le_refl _) _ fb1
      have hsb := sb_ERel (st0 := (_, _, pwF i1 8 (pwF (nI ch) 8 (pwF (nI cw) 8 _ 0) (0 + 8)) (0 + 8 + 8), 24, _, _, 0, 0)) (sb_pwF 8 (sb_pwF 8 (sb_pwF 8 (fun i hi => absurd hi (by omega))))) _ _ fb1
      obtain ⟨s1, s2, s3, ⟨s4, s5, -⟩, s6, s7, -, -⟩ := hs
      rcases fb3 with ⟨v1, -⟩ | ⟨v1, rfl, rfl, rfl, rfl, rfl, rfl, rfl, rfl, rfl, rfl, rfl, rfl⟩
      · exact absurd (by rw [s5]; exact v1) (a4 _ _ fa0 fa1)
      · exact ⟨rfl, fun h => absurd h (by decide), inv_long s1 fb2.1 hI⟩
    · skip
      have nQ2 : ¬ (coarP i1) := b0
      first | exact absurd pS nS2 | exact absurd pS2 nS | exact absurd pV nV2 | exact absurd pV2 nV | exact absurd pI nI2 | exact absurd pI2 nI | exact absurd pK nK2 | exact absurd pK2 nK | exact absurd pT nT2 | exact absurd pT2 nT | exact absurd pL nL2 | exact absurd pL2 nL | exact absurd pG nG2 | exact absurd pG2 nG | exact absurd pQ nQ2 | exact absurd pQ2 nQ | exact absurd pM nM2 | exact absurd pM2 nM | exact absurd pR nR2 | exact absurd pR2 nR | exact absurd pZ nZ2 | exact absurd pZ2 nZ | exact absurd (pR.symm.trans pZ2) (by decide) | exact absurd (pZ.symm.trans pR2) (by decide)
set_option maxHeartbeats 2000000 in
theorem p_get {px : Nat → Int32} {vz : Int32} {vw : Int32} {vh : Int32} {pxc : Nat → Int32} {mdc : Nat → Int32} {vzc : Int32} {vwc : Int32} {vhc : Int32} {vkc : Int32} {pxr : Nat → Int32} {mdr : Nat → Int32} {vzr : Int32} {vwr : Int32} {vhr : Int32} {vkr : Int32} {yt : Nat → Int32} {yl : Nat} {ibc : Int32} {ilc : Int32} {igl : Int32} {ibk : Int32} {ifa : Int32} {ibd : Int32} {wd : Nat → Int32} {hg : Nat → Int32} {pix : Nat → Int32} {str : Nat → Int32} {mds : Nat → Int32} {thr : Nat → Int32} {isz : Int32} {ibl : Int32} {ile : Int32} {igr : Int32} {mbk : Int32} {ist : Int32} {ibr : Int32} {fou : Nat → Int64} {i1 : Int32} {i2 : Int32} {i3 : Int32} {fouN : Nat → Int64} {ithN : Int32} {k : Int32} {bb : Int32} (hI : INV px vz vw vh pxc mdc vzc vwc vhc vkc pxr mdr vzr vwr vhr vkr yt yl ibc ilc igl ibk ifa ibd wd hg pix str mds thr isz ibl ile igr mbk ist ibr) (h1 : rx_get vz vw vh px vzc vwc vhc pxc vzr vwr vhr pxr fou i1 i2 i3 fouN k) (h2 : rm_get wd hg pix thr i1 i2 i3 ithN bb) : ithN = k ∧ (k = 0 → fouN 0 = Int32.toInt64 bb) ∧ INV px vz vw vh pxc mdc vzc vwc vhc vkc pxr mdr vzr vwr vhr vkr yt yl ibc ilc igl ibk ifa ibd wd hg pix str mds thr isz ibl ile igr mbk ist ibr := by
  have hI0 := hI
  obtain ⟨⟨z0, t0, ⟨cw0, ch0, hcw0, hch0, ew, eh, mw, mh⟩, hpx⟩, A1, A2, B1, B2, ⟨es, hyl, hyt⟩, ⟨q1, q2, q3, q4, q5⟩, hPX⟩ := hI0
  unfold rx_get at h1
  unfold rm_get at h2
  rcases h1 with ⟨x, y, e0, e1, e2, a0, a1, a2, a3, a4, rfl, rfl⟩ | ⟨x, y, e0, e1, e2, a0, a1, a2, a3, a4, rfl, rfl⟩ | ⟨x, y, e0, e1, e2, a0, a1, a2, a3, a4, rfl, rfl⟩ | ⟨a0, rfl, rfl⟩ | ⟨e0, a0, rfl, rfl⟩ | ⟨e0, a0, a1, rfl, rfl⟩ | ⟨e0, a0, rfl, rfl⟩ | ⟨e0, a0, a1, rfl, rfl⟩ | ⟨e0, a0, rfl, rfl⟩ | ⟨e0, a0, a1, rfl, rfl⟩
  · rcases h2 with ⟨o2, x2, y2, pw2, ph2, g0, g1, g2, b0, b1, b2, b3, b4, b5, b6, b7, rfl, rfl⟩ | ⟨b0, rfl, rfl⟩ | ⟨o2, g0, b0, b1, rfl, rfl⟩ | ⟨o2, g0, b0, b1, b2, rfl, rfl⟩
    · have w := nI_inj (b := 0) (g0.symm.trans e0) (by omega) (by decide)
      subst w
      obtain ⟨r1, r2⟩ := gt_d (hI.1.pic) (Or.inl ⟨x, y, e1, e2, a0, a1, a2, a3, a4, rfl, rfl⟩) (Or.inl ⟨x2, y2, pw2, ph2, g1, g2, b1, b2, b3, b4, b5, b6, b7, rfl, rfl⟩)
      exact ⟨r1, r2, hI⟩
    · exact absurd (by rw [e0]; decide) b0
    · have w := nI_inj (b := 0) (g0.symm.trans e0) (by omega) (by decide)
      subst w
      obtain ⟨r1, r2⟩ := gt_d (hI.1.pic) (Or.inl ⟨x, y, e1, e2, a0, a1, a2, a3, a4, rfl, rfl⟩) (Or.inr (Or.inl ⟨b1, rfl⟩))
      exact ⟨r1, fun h => absurd (r1.trans h) (by decide), hI⟩
    · have w := nI_inj (b := 0) (g0.symm.trans e0) (by omega) (by decide)
      subst w
      obtain ⟨r1, r2⟩ := gt_d (hI.1.pic) (Or.inl ⟨x, y, e1, e2, a0, a1, a2, a3, a4, rfl, rfl⟩) (Or.inr (Or.inr ⟨b1, b2, rfl⟩))
      exact ⟨r1, fun h => absurd (r1.trans h) (by decide), hI⟩
  · rcases h2 with ⟨o2, x2, y2, pw2, ph2, g0, g1, g2, b0, b1, b2, b3, b4, b5, b6, b7, rfl, rfl⟩ | ⟨b0, rfl, rfl⟩ | ⟨o2, g0, b0, b1, rfl, rfl⟩ | ⟨o2, g0, b0, b1, b2, rfl, rfl⟩
    · have w := nI_inj (b := 1) (g0.symm.trans e0) (by omega) (by decide)
      subst w
      obtain ⟨r1, r2⟩ := gt_d (A1) (Or.inl ⟨x, y, e1, e2, a0, a1, a2, a3, a4, rfl, rfl⟩) (Or.inl ⟨x2, y2, pw2, ph2, g1, g2, b1, b2, b3, b4, b5, b6, b7, rfl, rfl⟩)
      exact ⟨r1, r2, hI⟩
    · exact absurd (by rw [e0]; decide) b0
    · have w := nI_inj (b := 1) (g0.symm.trans e0) (by omega) (by decide)
      subst w
      obtain ⟨r1, r2⟩ := gt_d (A1) (Or.inl ⟨x, y, e1, e2, a0, a1, a2, a3, a4, rfl, rfl⟩) (Or.inr (Or.inl ⟨b1, rfl⟩))
      exact ⟨r1, fun h => absurd (r1.trans h) (by decide), hI⟩
    · have w := nI_inj (b := 1) (g0.symm.trans e0) (by omega) (by decide)
      subst w
      obtain ⟨r1, r2⟩ := gt_d (A1) (Or.inl ⟨x, y, e1, e2, a0, a1, a2, a3, a4, rfl, rfl⟩) (Or.inr (Or.inr ⟨b1, b2, rfl⟩))
      exact ⟨r1, fun h => absurd (r1.trans h) (by decide), hI⟩
  · rcases h2 with ⟨o2, x2, y2, pw2, ph2, g0, g1, g2, b0, b1, b2, b3, b4, b5, b6, b7, rfl, rfl⟩ | ⟨b0, rfl, rfl⟩ | ⟨o2, g0, b0, b1, rfl, rfl⟩ | ⟨o2, g0, b0, b1, b2, rfl, rfl⟩
    · have w := nI_inj (b := 2) (g0.symm.trans e0) (by omega) (by decide)
      subst w
      obtain ⟨r1, r2⟩ := gt_d (A2) (Or.inl ⟨x, y, e1, e2, a0, a1, a2, a3, a4, rfl, rfl⟩) (Or.inl ⟨x2, y2, pw2, ph2, g1, g2, b1, b2, b3, b4, b5, b6, b7, rfl, rfl⟩)
      exact ⟨r1, r2, hI⟩
    · exact absurd (by rw [e0]; decide) b0
    · have w := nI_inj (b := 2) (g0.symm.trans e0) (by omega) (by decide)
      subst w
      obtain ⟨r1, r2⟩ := gt_d (A2) (Or.inl ⟨x, y, e1, e2, a0, a1, a2, a3, a4, rfl, rfl⟩) (Or.inr (Or.inl ⟨b1, rfl⟩))
      exact ⟨r1, fun h => absurd (r1.trans h) (by decide), hI⟩
    · have w := nI_inj (b := 2) (g0.symm.trans e0) (by omega) (by decide)
      subst w
      obtain ⟨r1, r2⟩ := gt_d (A2) (Or.inl ⟨x, y, e1, e2, a0, a1, a2, a3, a4, rfl, rfl⟩) (Or.inr (Or.inr ⟨b1, b2, rfl⟩))
      exact ⟨r1, fun h => absurd (r1.trans h) (by decide), hI⟩
  · rcases h2 with ⟨o2, x2, y2, pw2, ph2, g0, g1, g2, b0, b1, b2, b3, b4, b5, b6, b7, rfl, rfl⟩ | ⟨b0, rfl, rfl⟩ | ⟨o2, g0, b0, b1, rfl, rfl⟩ | ⟨o2, g0, b0, b1, b2, rfl, rfl⟩
    · exact absurd (by rw [g0]; exact cs_ch b0) a0
    · exact ⟨rfl, fun h => absurd h (by decide), hI⟩
    · exact absurd (by rw [g0]; exact cs_ch b0) a0
    · exact absurd (by rw [g0]; exact cs_ch b0) a0
  · rcases h2 with ⟨o2, x2, y2, pw2, ph2, g0, g1, g2, b0, b1, b2, b3, b4, b5, b6, b7, rfl, rfl⟩ | ⟨b0, rfl, rfl⟩ | ⟨o2, g0, b0, b1, rfl, rfl⟩ | ⟨o2, g0, b0, b1, b2, rfl, rfl⟩
    · have w := nI_inj (b := 0) (g0.symm.trans e0) (by omega) (by decide)
      subst w
      obtain ⟨r1, r2⟩ := gt_d (fou := fun _ => 0) (fouN := fun _ => 0) (hI.1.pic) (Or.inr (Or.inl ⟨a0, rfl⟩)) (Or.inl ⟨x2, y2, pw2, ph2, g1, g2, b1, b2, b3, b4, b5, b6, b7, rfl, rfl⟩)
      exact ⟨r1, fun h => absurd h (by decide), hI⟩
    · exact absurd (by rw [e0]; decide) b0
    · have w := nI_inj (b := 0) (g0.symm.trans e0) (by omega) (by decide)
      subst w
      obtain ⟨r1, r2⟩ := gt_d (fou := fun _ => 0) (fouN := fun _ => 0) (b := 0) (hI.1.pic) (Or.inr (Or.inl ⟨a0, rfl⟩)) (Or.inr (Or.inl ⟨b1, rfl⟩))
      exact ⟨r1, fun h => absurd h (by decide), hI⟩
    · have w := nI_inj (b := 0) (g0.symm.trans e0) (by omega) (by decide)
      subst w
      obtain ⟨r1, r2⟩ := gt_d (fou := fun _ => 0) (fouN := fun _ => 0) (b := 0) (hI.1.pic) (Or.inr (Or.inl ⟨a0, rfl⟩)) (Or.inr (Or.inr ⟨b1, b2, rfl⟩))
      exact ⟨r1, fun h => absurd h (by decide), hI⟩
  · rcases h2 with ⟨o2, x2, y2, pw2, ph2, g0, g1, g2, b0, b1, b2, b3, b4, b5, b6, b7, rfl, rfl⟩ | ⟨b0, rfl, rfl⟩ | ⟨o2, g0, b0, b1, rfl, rfl⟩ | ⟨o2, g0, b0, b1, b2, rfl, rfl⟩
    · have w := nI_inj (b := 0) (g0.symm.trans e0) (by omega) (by decide)
      subst w
      obtain ⟨r1, r2⟩ := gt_d (fou := fun _ => 0) (fouN := fun _ => 0) (hI.1.pic) (Or.inr (Or.inr ⟨a0, a1, rfl⟩)) (Or.inl ⟨x2, y2, pw2, ph2, g1, g2, b1, b2, b3, b4, b5, b6, b7, rfl, rfl⟩)
      exact ⟨r1, fun h => absurd h (by decide), hI⟩
    · exact absurd (by rw [e0]; decide) b0
    · have w := nI_inj (b := 0) (g0.symm.trans e0) (by omega) (by decide)
      subst w
      obtain ⟨r1, r2⟩ := gt_d (fou := fun _ => 0) (fouN := fun _ => 0) (b := 0) (hI.1.pic) (Or.inr (Or.inr ⟨a0, a1, rfl⟩)) (Or.inr (Or.inl ⟨b1, rfl⟩))
      exact ⟨r1, fun h => absurd h (by decide), hI⟩
    · have w := nI_inj (b := 0) (g0.symm.trans e0) (by omega) (by decide)
      subst w
      obtain ⟨r1, r2⟩ := gt_d (fou := fun _ => 0) (fouN := fun _ => 0) (b := 0) (hI.1.pic) (Or.inr (Or.inr ⟨a0, a1, rfl⟩)) (Or.inr (Or.inr ⟨b1, b2, rfl⟩))
      exact ⟨r1, fun h => absurd h (by decide), hI⟩
  · rcases h2 with ⟨o2, x2, y2, pw2, ph2, g0, g1, g2, b0, b1, b2, b3, b4, b5, b6, b7, rfl, rfl⟩ | ⟨b0, rfl, rfl⟩ | ⟨o2, g0, b0, b1, rfl, rfl⟩ | ⟨o2, g0, b0, b1, b2, rfl, rfl⟩
    · have w := nI_inj (b := 1) (g0.symm.trans e0) (by omega) (by decide)
      subst w
      obtain ⟨r1, r2⟩ := gt_d (fou := fun _ => 0) (fouN := fun _ => 0) (A1) (Or.inr (Or.inl ⟨a0, rfl⟩)) (Or.inl ⟨x2, y2, pw2, ph2, g1, g2, b1, b2, b3, b4, b5, b6, b7, rfl, rfl⟩)
      exact ⟨r1, fun h => absurd h (by decide), hI⟩
    · exact absurd (by rw [e0]; decide) b0
    · have w := nI_inj (b := 1) (g0.symm.trans e0) (by omega) (by decide)
      subst w
      obtain ⟨r1, r2⟩ := gt_d (fou := fun _ => 0) (fouN := fun _ => 0) (b := 0) (A1) (Or.inr (Or.inl ⟨a0, rfl⟩)) (Or.inr (Or.inl ⟨b1, rfl⟩))
      exact ⟨r1, fun h => absurd h (by decide), hI⟩
    · have w := nI_inj (b := 1) (g0.symm.trans e0) (by omega) (by decide)
      subst w
      obtain ⟨r1, r2⟩ := gt_d (fou := fun _ => 0) (fouN := fun _ => 0) (b := 0) (A1) (Or.inr (Or.inl ⟨a0, rfl⟩)) (Or.inr (Or.inr ⟨b1, b2, rfl⟩))
      exact ⟨r1, fun h => absurd h (by decide), hI⟩
  · rcases h2 with ⟨o2, x2, y2, pw2, ph2, g0, g1, g2, b0, b1, b2, b3, b4, b5, b6, b7, rfl, rfl⟩ | ⟨b0, rfl, rfl⟩ | ⟨o2, g0, b0, b1, rfl, rfl⟩ | ⟨o2, g0, b0, b1, b2, rfl, rfl⟩
    · have w := nI_inj (b := 1) (g0.symm.trans e0) (by omega) (by decide)
      subst w
      obtain ⟨r1, r2⟩ := gt_d (fou := fun _ => 0) (fouN := fun _ => 0) (A1) (Or.inr (Or.inr ⟨a0, a1, rfl⟩)) (Or.inl ⟨x2, y2, pw2, ph2, g1, g2, b1, b2, b3, b4, b5, b6, b7, rfl, rfl⟩)
      exact ⟨r1, fun h => absurd h (by decide), hI⟩
    · exact absurd (by rw [e0]; decide) b0
    · have w := nI_inj (b := 1) (g0.symm.trans e0) (by omega) (by decide)
      subst w
      obtain ⟨r1, r2⟩ := gt_d (fou := fun _ => 0) (fouN := fun _ => 0) (b := 0) (A1) (Or.inr (Or.inr ⟨a0, a1, rfl⟩)) (Or.inr (Or.inl ⟨b1, rfl⟩))
      exact ⟨r1, fun h => absurd h (by decide), hI⟩
    · have w := nI_inj (b := 1) (g0.symm.trans e0) (by omega) (by decide)
      subst w
      obtain ⟨r1, r2⟩ := gt_d (fou := fun _ => 0) (fouN := fun _ => 0) (b := 0) (A1) (Or.inr (Or.inr ⟨a0, a1, rfl⟩)) (Or.inr (Or.inr ⟨b1, b2, rfl⟩))
      exact ⟨r1, fun h => absurd h (by decide), hI⟩
  · rcases h2 with ⟨o2, x2, y2, pw2, ph2, g0, g1, g2, b0, b1, b2, b3, b4, b5, b6, b7, rfl, rfl⟩ | ⟨b0, rfl, rfl⟩ | ⟨o2, g0, b0, b1, rfl, rfl⟩ | ⟨o2, g0, b0, b1, b2, rfl, rfl⟩
    · have w := nI_inj (b := 2) (g0.symm.trans e0) (by omega) (by decide)
      subst w
      obtain ⟨r1, r2⟩ := gt_d (fou := fun _ => 0) (fouN := fun _ => 0) (A2) (Or.inr (Or.inl ⟨a0, rfl⟩)) (Or.inl ⟨x2, y2, pw2, ph2, g1, g2, b1, b2, b3, b4, b5, b6, b7, rfl, rfl⟩)
      exact ⟨r1, fun h => absurd h (by decide), hI⟩
    · exact absurd (by rw [e0]; decide) b0
    · have w := nI_inj (b := 2) (g0.symm.trans e0) (by omega) (by decide)
      subst w
      obtain ⟨r1, r2⟩ := gt_d (fou := fun _ => 0) (fouN := fun _ => 0) (b := 0) (A2) (Or.inr (Or.inl ⟨a0, rfl⟩)) (Or.inr (Or.inl ⟨b1, rfl⟩))
      exact ⟨r1, fun h => absurd h (by decide), hI⟩
    · have w := nI_inj (b := 2) (g0.symm.trans e0) (by omega) (by decide)
      subst w
      obtain ⟨r1, r2⟩ := gt_d (fou := fun _ => 0) (fouN := fun _ => 0) (b := 0) (A2) (Or.inr (Or.inl ⟨a0, rfl⟩)) (Or.inr (Or.inr ⟨b1, b2, rfl⟩))
      exact ⟨r1, fun h => absurd h (by decide), hI⟩
  · rcases h2 with ⟨o2, x2, y2, pw2, ph2, g0, g1, g2, b0, b1, b2, b3, b4, b5, b6, b7, rfl, rfl⟩ | ⟨b0, rfl, rfl⟩ | ⟨o2, g0, b0, b1, rfl, rfl⟩ | ⟨o2, g0, b0, b1, b2, rfl, rfl⟩
    · have w := nI_inj (b := 2) (g0.symm.trans e0) (by omega) (by decide)
      subst w
      obtain ⟨r1, r2⟩ := gt_d (fou := fun _ => 0) (fouN := fun _ => 0) (A2) (Or.inr (Or.inr ⟨a0, a1, rfl⟩)) (Or.inl ⟨x2, y2, pw2, ph2, g1, g2, b1, b2, b3, b4, b5, b6, b7, rfl, rfl⟩)
      exact ⟨r1, fun h => absurd h (by decide), hI⟩
    · exact absurd (by rw [e0]; decide) b0
    · have w := nI_inj (b := 2) (g0.symm.trans e0) (by omega) (by decide)
      subst w
      obtain ⟨r1, r2⟩ := gt_d (fou := fun _ => 0) (fouN := fun _ => 0) (b := 0) (A2) (Or.inr (Or.inr ⟨a0, a1, rfl⟩)) (Or.inr (Or.inl ⟨b1, rfl⟩))
      exact ⟨r1, fun h => absurd h (by decide), hI⟩
    · have w := nI_inj (b := 2) (g0.symm.trans e0) (by omega) (by decide)
      subst w
      obtain ⟨r1, r2⟩ := gt_d (fou := fun _ => 0) (fouN := fun _ => 0) (b := 0) (A2) (Or.inr (Or.inr ⟨a0, a1, rfl⟩)) (Or.inr (Or.inr ⟨b1, b2, rfl⟩))
      exact ⟨r1, fun h => absurd h (by decide), hI⟩
set_option maxHeartbeats 2000000 in
theorem p_apart {px : Nat → Int32} {vz : Int32} {vw : Int32} {vh : Int32} {pxc : Nat → Int32} {mdc : Nat → Int32} {vzc : Int32} {vwc : Int32} {vhc : Int32} {vkc : Int32} {pxr : Nat → Int32} {mdr : Nat → Int32} {vzr : Int32} {vwr : Int32} {vhr : Int32} {vkr : Int32} {yt : Nat → Int32} {yl : Nat} {ibc : Int32} {ilc : Int32} {igl : Int32} {ibk : Int32} {ifa : Int32} {ibd : Int32} {wd : Nat → Int32} {hg : Nat → Int32} {pix : Nat → Int32} {str : Nat → Int32} {mds : Nat → Int32} {thr : Nat → Int32} {isz : Int32} {ibl : Int32} {ile : Int32} {igr : Int32} {mbk : Int32} {ist : Int32} {ibr : Int32} {fou : Nat → UInt64} {i1 : Int32} {i2 : Int32} {fouN : Nat → UInt64} {ithN : Int32} {k : Int32} {bb : UInt64} (hI : INV px vz vw vh pxc mdc vzc vwc vhc vkc pxr mdr vzr vwr vhr vkr yt yl ibc ilc igl ibk ifa ibd wd hg pix str mds thr isz ibl ile igr mbk ist ibr) (h1 : rx_apart vz vw vh px vzc vwc vhc pxc vzr vwr vhr pxr fou i1 i2 fouN k) (h2 : rm_apart wd hg pix thr i1 i2 ithN bb) : ithN = k ∧ (k = 0 → fouN 0 = bb) ∧ INV px vz vw vh pxc mdc vzc vwc vhc vkc pxr mdr vzr vwr vhr vkr yt yl ibc ilc igl ibk ifa ibd wd hg pix str mds thr isz ibl ile igr mbk ist ibr := by
  have hI0 := hI
  obtain ⟨⟨z0, t0, ⟨cw0, ch0, hcw0, hch0, ew, eh, mw, mh⟩, hpx⟩, A1, A2, B1, B2, ⟨es, hyl, hyt⟩, ⟨q1, q2, q3, q4, q5⟩, hPX⟩ := hI0
  unfold rx_apart at h1
  unfold rm_apart at h2
  rcases h1 with ⟨pw, ph, e0, e1, e2, e3, a0, a1, a2, a3, rfl, rfl⟩ | ⟨pw, ph, e0, e1, e2, e3, e4, e5, a0, a1, a2, a3, rfl, rfl⟩ | ⟨pw, ph, e0, e1, e2, e3, e4, e5, a0, a1, a2, a3, rfl, rfl⟩ | ⟨pw, ph, e0, e1, e2, e3, e4, e5, a0, a1, a2, a3, rfl, rfl⟩ | ⟨pw, ph, e0, e1, e2, e3, a0, a1, a2, a3, rfl, rfl⟩ | ⟨pw, ph, e0, e1, e2, e3, e4, e5, a0, a1, a2, a3, rfl, rfl⟩ | ⟨pw, ph, e0, e1, e2, e3, e4, e5, a0, a1, a2, a3, rfl, rfl⟩ | ⟨pw, ph, e0, e1, e2, e3, e4, e5, a0, a1, a2, a3, rfl, rfl⟩ | ⟨pw, ph, e0, e1, e2, e3, a0, a1, a2, a3, rfl, rfl⟩ | ⟨a0, rfl, rfl⟩ | ⟨e0, e1, a0, rfl, rfl⟩ | ⟨e0, e1, a0, rfl, rfl⟩ | ⟨e0, e1, a0, a1, a2, rfl, rfl⟩ | ⟨e0, e1, a0, rfl, rfl⟩ | ⟨e0, e1, a0, a1, a2, rfl, rfl⟩ | ⟨e0, e1, a0, rfl, rfl⟩ | ⟨e0, e1, a0, a1, a2, rfl, rfl⟩ | ⟨e0, e1, a0, rfl, rfl⟩ | ⟨e0, e1, a0, rfl, rfl⟩ | ⟨e0, e1, a0, a1, a2, rfl, rfl⟩ | ⟨e0, e1, a0, rfl, rfl⟩ | ⟨e0, e1, a0, a1, a2, rfl, rfl⟩ | ⟨e0, e1, a0, rfl, rfl⟩ | ⟨e0, e1, a0, a1, a2, rfl, rfl⟩ | ⟨e0, e1, a0, rfl, rfl⟩
  · rcases h2 with ⟨o12, o22, pw2, ph2, g0, g1, b0, b1, b2, b3, b4, b5, b6, b7, b8, b9, b10, b11, rfl, rfl⟩ | ⟨b0, rfl, rfl⟩ | ⟨o12, o22, g0, g1, b0, b1, b2, rfl, rfl⟩ | ⟨o12, o22, g0, g1, b0, b1, b2, b3, b4, rfl, rfl⟩
    · have w := nI_inj (b := 0) (g0.symm.trans e0) (by omega) (by decide)
      have w2 := nI_inj (b := 0) (g1.symm.trans e1) (by omega) (by decide)
      subst w
      subst w2
      obtain ⟨r1, r2⟩ := ap_d (hI.1.pic) (hI.1.pic) (Or.inl ⟨pw, ph, e2, e3, a0, a1, e2, e3, a2.2, a3.2, rfl, rfl⟩) (Or.inl ⟨pw2, ph2, b2, b3, b4, b5, b6, b7, b8.2, b9.2, rfl, rfl⟩)
      exact ⟨r1, r2, hI⟩
    · exact absurd (by rw [e0, e1]; decide) b0
    · have w := nI_inj (b := 0) (g0.symm.trans e0) (by omega) (by decide)
      have w2 := nI_inj (b := 0) (g1.symm.trans e1) (by omega) (by decide)
      subst w
      subst w2
      obtain ⟨r1, r2⟩ := ap_d (b := 0) (hI.1.pic) (hI.1.pic) (Or.inl ⟨pw, ph, e2, e3, a0, a1, e2, e3, a2.2, a3.2, rfl, rfl⟩) (Or.inr (Or.inl ⟨b2, rfl⟩))
      exact ⟨r1, fun h => absurd (r1.trans h) (by decide), hI⟩
    · have w := nI_inj (b := 0) (g0.symm.trans e0) (by omega) (by decide)
      have w2 := nI_inj (b := 0) (g1.symm.trans e1) (by omega) (by decide)
      subst w
      subst w2
      obtain ⟨r1, r2⟩ := ap_d (b := 0) (hI.1.pic) (hI.1.pic) (Or.inl ⟨pw, ph, e2, e3, a0, a1, e2, e3, a2.2, a3.2, rfl, rfl⟩) (Or.inr (Or.inr ⟨b2, b3, b4, rfl⟩))
      exact ⟨r1, fun h => absurd (r1.trans h) (by decide), hI⟩
  · rcases h2 with ⟨o12, o22, pw2, ph2, g0, g1, b0, b1, b2, b3, b4, b5, b6, b7, b8, b9, b10, b11, rfl, rfl⟩ | ⟨b0, rfl, rfl⟩ | ⟨o12, o22, g0, g1, b0, b1, b2, rfl, rfl⟩ | ⟨o12, o22, g0, g1, b0, b1, b2, b3, b4, rfl, rfl⟩
    · have w := nI_inj (b := 0) (g0.symm.trans e0) (by omega) (by decide)
      have w2 := nI_inj (b := 1) (g1.symm.trans e1) (by omega) (by decide)
      subst w
      subst w2
      obtain ⟨r1, r2⟩ := ap_d (hI.1.pic) (A1) (Or.inl ⟨pw, ph, e2, e3, a0, a1, e4, e5, a2.2, a3.2, rfl, rfl⟩) (Or.inl ⟨pw2, ph2, b2, b3, b4, b5, b6, b7, b8.2, b9.2, rfl, rfl⟩)
      exact ⟨r1, r2, hI⟩
    · exact absurd (by rw [e0, e1]; decide) b0
    · have w := nI_inj (b := 0) (g0.symm.trans e0) (by omega) (by decide)
      have w2 := nI_inj (b := 1) (g1.symm.trans e1) (by omega) (by decide)
      subst w
      subst w2
      obtain ⟨r1, r2⟩ := ap_d (b := 0) (hI.1.pic) (A1) (Or.inl ⟨pw, ph, e2, e3, a0, a1, e4, e5, a2.2, a3.2, rfl, rfl⟩) (Or.inr (Or.inl ⟨b2, rfl⟩))
      exact ⟨r1, fun h => absurd (r1.trans h) (by decide), hI⟩
    · have w := nI_inj (b := 0) (g0.symm.trans e0) (by omega) (by decide)
      have w2 := nI_inj (b := 1) (g1.symm.trans e1) (by omega) (by decide)
      subst w
      subst w2
      obtain ⟨r1, r2⟩ := ap_d (b := 0) (hI.1.pic) (A1) (Or.inl ⟨pw, ph, e2, e3, a0, a1, e4, e5, a2.2, a3.2, rfl, rfl⟩) (Or.inr (Or.inr ⟨b2, b3, b4, rfl⟩))
      exact ⟨r1, fun h => absurd (r1.trans h) (by decide), hI⟩
  · rcases h2 with ⟨o12, o22, pw2, ph2, g0, g1, b0, b1, b2, b3, b4, b5, b6, b7, b8, b9, b10, b11, rfl, rfl⟩ | ⟨b0, rfl, rfl⟩ | ⟨o12, o22, g0, g1, b0, b1, b2, rfl, rfl⟩ | ⟨o12, o22, g0, g1, b0, b1, b2, b3, b4, rfl, rfl⟩
    · have w := nI_inj (b := 0) (g0.symm.trans e0) (by omega) (by decide)
      have w2 := nI_inj (b := 2) (g1.symm.trans e1) (by omega) (by decide)
      subst w
      subst w2
      obtain ⟨r1, r2⟩ := ap_d (hI.1.pic) (A2) (Or.inl ⟨pw, ph, e2, e3, a0, a1, e4, e5, a2.2, a3.2, rfl, rfl⟩) (Or.inl ⟨pw2, ph2, b2, b3, b4, b5, b6, b7, b8.2, b9.2, rfl, rfl⟩)
      exact ⟨r1, r2, hI⟩
    · exact absurd (by rw [e0, e1]; decide) b0
    · have w := nI_inj (b := 0) (g0.symm.trans e0) (by omega) (by decide)
      have w2 := nI_inj (b := 2) (g1.symm.trans e1) (by omega) (by decide)
      subst w
      subst w2
      obtain ⟨r1, r2⟩ := ap_d (b := 0) (hI.1.pic) (A2) (Or.inl ⟨pw, ph, e2, e3, a0, a1, e4, e5, a2.2, a3.2, rfl, rfl⟩) (Or.inr (Or.inl ⟨b2, rfl⟩))
      exact ⟨r1, fun h => absurd (r1.trans h) (by decide), hI⟩
    · have w := nI_inj (b := 0) (g0.symm.trans e0) (by omega) (by decide)
      have w2 := nI_inj (b := 2) (g1.symm.trans e1) (by omega) (by decide)
      subst w
      subst w2
      obtain ⟨r1, r2⟩ := ap_d (b := 0) (hI.1.pic) (A2) (Or.inl ⟨pw, ph, e2, e3, a0, a1, e4, e5, a2.2, a3.2, rfl, rfl⟩) (Or.inr (Or.inr ⟨b2, b3, b4, rfl⟩))
      exact ⟨r1, fun h => absurd (r1.trans h) (by decide), hI⟩
  · rcases h2 with ⟨o12, o22, pw2, ph2, g0, g1, b0, b1, b2, b3, b4, b5, b6, b7, b8, b9, b10, b11, rfl, rfl⟩ | ⟨b0, rfl, rfl⟩ | ⟨o12, o22, g0, g1, b0, b1, b2, rfl, rfl⟩ | ⟨o12, o22, g0, g1, b0, b1, b2, b3, b4, rfl, rfl⟩
    · have w := nI_inj (b := 1) (g0.symm.trans e0) (by omega) (by decide)
      have w2 := nI_inj (b := 0) (g1.symm.trans e1) (by omega) (by decide)
      subst w
      subst w2
      obtain ⟨r1, r2⟩ := ap_d (A1) (hI.1.pic) (Or.inl ⟨pw, ph, e2, e3, a0, a1, e4, e5, a2.2, a3.2, rfl, rfl⟩) (Or.inl ⟨pw2, ph2, b2, b3, b4, b5, b6, b7, b8.2, b9.2, rfl, rfl⟩)
      exact ⟨r1, r2, hI⟩
    · exact absurd (by rw [e0, e1]; decide) b0
    · have w := nI_inj (b := 1) (g0.symm.trans e0) (by omega) (by decide)
      have w2 := nI_inj (b := 0) (g1.symm.trans e1) (by omega) (by decide)
      subst w
      subst w2
      obtain ⟨r1, r2⟩ := ap_d (b := 0) (A1) (hI.1.pic) (Or.inl ⟨pw, ph, e2, e3, a0, a1, e4, e5, a2.2, a3.2, rfl, rfl⟩) (Or.inr (Or.inl ⟨b2, rfl⟩))
      exact ⟨r1, fun h => absurd (r1.trans h) (by decide), hI⟩
    · have w := nI_inj (b := 1) (g0.symm.trans e0) (by omega) (by decide)
      have w2 := nI_inj (b := 0) (g1.symm.trans e1) (by omega) (by decide)
      subst w
      subst w2
      obtain ⟨r1, r2⟩ := ap_d (b := 0) (A1) (hI.1.pic) (Or.inl ⟨pw, ph, e2, e3, a0, a1, e4, e5, a2.2, a3.2, rfl, rfl⟩) (Or.inr (Or.inr ⟨b2, b3, b4, rfl⟩))
      exact ⟨r1, fun h => absurd (r1.trans h) (by decide), hI⟩
  · rcases h2 with ⟨o12, o22, pw2, ph2, g0, g1, b0, b1, b2, b3, b4, b5, b6, b7, b8, b9, b10, b11, rfl, rfl⟩ | ⟨b0, rfl, rfl⟩ | ⟨o12, o22, g0, g1, b0, b1, b2, rfl, rfl⟩ | ⟨o12, o22, g0, g1, b0, b1, b2, b3, b4, rfl, rfl⟩
    · have w := nI_inj (b := 1) (g0.symm.trans e0) (by omega) (by decide)
      have w2 := nI_inj (b := 1) (g1.symm.trans e1) (by omega) (by decide)
      subst w
      subst w2
      obtain ⟨r1, r2⟩ := ap_d (A1) (A1) (Or.inl ⟨pw, ph, e2, e3, a0, a1, e2, e3, a2.2, a3.2, rfl, rfl⟩) (Or.inl ⟨pw2, ph2, b2, b3, b4, b5, b6, b7, b8.2, b9.2, rfl, rfl⟩)
      exact ⟨r1, r2, hI⟩
    · exact absurd (by rw [e0, e1]; decide) b0
    · have w := nI_inj (b := 1) (g0.symm.trans e0) (by omega) (by decide)
      have w2 := nI_inj (b := 1) (g1.symm.trans e1) (by omega) (by decide)
      subst w
      subst w2
      obtain ⟨r1, r2⟩ := ap_d (b := 0) (A1) (A1) (Or.inl ⟨pw, ph, e2, e3, a0, a1, e2, e3, a2.2, a3.2, rfl, rfl⟩) (Or.inr (Or.inl ⟨b2, rfl⟩))
      exact ⟨r1, fun h => absurd (r1.trans h) (by decide), hI⟩
    · have w := nI_inj (b := 1) (g0.symm.trans e0) (by omega) (by decide)
      have w2 := nI_inj (b := 1) (g1.symm.trans e1) (by omega) (by decide)
      subst w
      subst w2
      obtain ⟨r1, r2⟩ := ap_d (b := 0) (A1) (A1) (Or.inl ⟨pw, ph, e2, e3, a0, a1, e2, e3, a2.2, a3.2, rfl, rfl⟩) (Or.inr (Or.inr ⟨b2, b3, b4, rfl⟩))
      exact ⟨r1, fun h => absurd (r1.trans h) (by decide), hI⟩
  · rcases h2 with ⟨o12, o22, pw2, ph2, g0, g1, b0, b1, b2, b3, b4, b5, b6, b7, b8, b9, b10, b11, rfl, rfl⟩ | ⟨b0, rfl, rfl⟩ | ⟨o12, o22, g0, g1, b0, b1, b2, rfl, rfl⟩ | ⟨o12, o22, g0, g1, b0, b1, b2, b3, b4, rfl, rfl⟩
    · have w := nI_inj (b := 1) (g0.symm.trans e0) (by omega) (by decide)
      have w2 := nI_inj (b := 2) (g1.symm.trans e1) (by omega) (by decide)
      subst w
      subst w2
      obtain ⟨r1, r2⟩ := ap_d (A1) (A2) (Or.inl ⟨pw, ph, e2, e3, a0, a1, e4, e5, a2.2, a3.2, rfl, rfl⟩) (Or.inl ⟨pw2, ph2, b2, b3, b4, b5, b6, b7, b8.2, b9.2, rfl, rfl⟩)
      exact ⟨r1, r2, hI⟩
    · exact absurd (by rw [e0, e1]; decide) b0
    · have w := nI_inj (b := 1) (g0.symm.trans e0) (by omega) (by decide)
      have w2 := nI_inj (b := 2) (g1.symm.trans e1) (by omega) (by decide)
      subst w
      subst w2
      obtain ⟨r1, r2⟩ := ap_d (b := 0) (A1) (A2) (Or.inl ⟨pw, ph, e2, e3, a0, a1, e4, e5, a2.2, a3.2, rfl, rfl⟩) (Or.inr (Or.inl ⟨b2, rfl⟩))
      exact ⟨r1, fun h => absurd (r1.trans h) (by decide), hI⟩
    · have w := nI_inj (b := 1) (g0.symm.trans e0) (by omega) (by decide)
      have w2 := nI_inj (b := 2) (g1.symm.trans e1) (by omega) (by decide)
      subst w
      subst w2
      obtain ⟨r1, r2⟩ := ap_d (b := 0) (A1) (A2) (Or.inl ⟨pw, ph, e2, e3, a0, a1, e4, e5, a2.2, a3.2, rfl, rfl⟩) (Or.inr (Or.inr ⟨b2, b3, b4, rfl⟩))
      exact ⟨r1, fun h => absurd (r1.trans h) (by decide), hI⟩
  · rcases h2 with ⟨o12, o22, pw2, ph2, g0, g1, b0, b1, b2, b3, b4, b5, b6, b7, b8, b9, b10, b11, rfl, rfl⟩ | ⟨b0, rfl, rfl⟩ | ⟨o12, o22, g0, g1, b0, b1, b2, rfl, rfl⟩ | ⟨o12, o22, g0, g1, b0, b1, b2, b3, b4, rfl, rfl⟩
    · have w := nI_inj (b := 2) (g0.symm.trans e0) (by omega) (by decide)
      have w2 := nI_inj (b := 0) (g1.symm.trans e1) (by omega) (by decide)
      subst w
      subst w2
      obtain ⟨r1, r2⟩ := ap_d (A2) (hI.1.pic) (Or.inl ⟨pw, ph, e2, e3, a0, a1, e4, e5, a2.2, a3.2, rfl, rfl⟩) (Or.inl ⟨pw2, ph2, b2, b3, b4, b5, b6, b7, b8.2, b9.2, rfl, rfl⟩)
      exact ⟨r1, r2, hI⟩
    · exact absurd (by rw [e0, e1]; decide) b0
    · have w := nI_inj (b := 2) (g0.symm.trans e0) (by omega) (by decide)
      have w2 := nI_inj (b := 0) (g1.symm.trans e1) (by omega) (by decide)
      subst w
      subst w2
      obtain ⟨r1, r2⟩ := ap_d (b := 0) (A2) (hI.1.pic) (Or.inl ⟨pw, ph, e2, e3, a0, a1, e4, e5, a2.2, a3.2, rfl, rfl⟩) (Or.inr (Or.inl ⟨b2, rfl⟩))
      exact ⟨r1, fun h => absurd (r1.trans h) (by decide), hI⟩
    · have w := nI_inj (b := 2) (g0.symm.trans e0) (by omega) (by decide)
      have w2 := nI_inj (b := 0) (g1.symm.trans e1) (by omega) (by decide)
      subst w
      subst w2
      obtain ⟨r1, r2⟩ := ap_d (b := 0) (A2) (hI.1.pic) (Or.inl ⟨pw, ph, e2, e3, a0, a1, e4, e5, a2.2, a3.2, rfl, rfl⟩) (Or.inr (Or.inr ⟨b2, b3, b4, rfl⟩))
      exact ⟨r1, fun h => absurd (r1.trans h) (by decide), hI⟩
  · rcases h2 with ⟨o12, o22, pw2, ph2, g0, g1, b0, b1, b2, b3, b4, b5, b6, b7, b8, b9, b10, b11, rfl, rfl⟩ | ⟨b0, rfl, rfl⟩ | ⟨o12, o22, g0, g1, b0, b1, b2, rfl, rfl⟩ | ⟨o12, o22, g0, g1, b0, b1, b2, b3, b4, rfl, rfl⟩
    · have w := nI_inj (b := 2) (g0.symm.trans e0) (by omega) (by decide)
      have w2 := nI_inj (b := 1) (g1.symm.trans e1) (by omega) (by decide)
      subst w
      subst w2
      obtain ⟨r1, r2⟩ := ap_d (A2) (A1) (Or.inl ⟨pw, ph, e2, e3, a0, a1, e4, e5, a2.2, a3.2, rfl, rfl⟩) (Or.inl ⟨pw2, ph2, b2, b3, b4, b5, b6, b7, b8.2, b9.2, rfl, rfl⟩)
      exact ⟨r1, r2, hI⟩
    · exact absurd (by rw [e0, e1]; decide) b0
    · have w := nI_inj (b := 2) (g0.symm.trans e0) (by omega) (by decide)
      have w2 := nI_inj (b := 1) (g1.symm.trans e1) (by omega) (by decide)
      subst w
      subst w2
      obtain ⟨r1, r2⟩ := ap_d (b := 0) (A2) (A1) (Or.inl ⟨pw, ph, e2, e3, a0, a1, e4, e5, a2.2, a3.2, rfl, rfl⟩) (Or.inr (Or.inl ⟨b2, rfl⟩))
      exact ⟨r1, fun h => absurd (r1.trans h) (by decide), hI⟩
    · have w := nI_inj (b := 2) (g0.symm.trans e0) (by omega) (by decide)
      have w2 := nI_inj (b := 1) (g1.symm.trans e1) (by omega) (by decide)
      subst w
      subst w2
      obtain ⟨r1, r2⟩ := ap_d (b := 0) (A2) (A1) (Or.inl ⟨pw, ph, e2, e3, a0, a1, e4, e5, a2.2, a3.2, rfl, rfl⟩) (Or.inr (Or.inr ⟨b2, b3, b4, rfl⟩))
      exact ⟨r1, fun h => absurd (r1.trans h) (by decide), hI⟩
  · rcases h2 with ⟨o12, o22, pw2, ph2, g0, g1, b0, b1, b2, b3, b4, b5, b6, b7, b8, b9, b10, b11, rfl, rfl⟩ | ⟨b0, rfl, rfl⟩ | ⟨o12, o22, g0, g1, b0, b1, b2, rfl, rfl⟩ | ⟨o12, o22, g0, g1, b0, b1, b2, b3, b4, rfl, rfl⟩
    · have w := nI_inj (b := 2) (g0.symm.trans e0) (by omega) (by decide)
      have w2 := nI_inj (b := 2) (g1.symm.trans e1) (by omega) (by decide)
      subst w
      subst w2
      obtain ⟨r1, r2⟩ := ap_d (A2) (A2) (Or.inl ⟨pw, ph, e2, e3, a0, a1, e2, e3, a2.2, a3.2, rfl, rfl⟩) (Or.inl ⟨pw2, ph2, b2, b3, b4, b5, b6, b7, b8.2, b9.2, rfl, rfl⟩)
      exact ⟨r1, r2, hI⟩
    · exact absurd (by rw [e0, e1]; decide) b0
    · have w := nI_inj (b := 2) (g0.symm.trans e0) (by omega) (by decide)
      have w2 := nI_inj (b := 2) (g1.symm.trans e1) (by omega) (by decide)
      subst w
      subst w2
      obtain ⟨r1, r2⟩ := ap_d (b := 0) (A2) (A2) (Or.inl ⟨pw, ph, e2, e3, a0, a1, e2, e3, a2.2, a3.2, rfl, rfl⟩) (Or.inr (Or.inl ⟨b2, rfl⟩))
      exact ⟨r1, fun h => absurd (r1.trans h) (by decide), hI⟩
    · have w := nI_inj (b := 2) (g0.symm.trans e0) (by omega) (by decide)
      have w2 := nI_inj (b := 2) (g1.symm.trans e1) (by omega) (by decide)
      subst w
      subst w2
      obtain ⟨r1, r2⟩ := ap_d (b := 0) (A2) (A2) (Or.inl ⟨pw, ph, e2, e3, a0, a1, e2, e3, a2.2, a3.2, rfl, rfl⟩) (Or.inr (Or.inr ⟨b2, b3, b4, rfl⟩))
      exact ⟨r1, fun h => absurd (r1.trans h) (by decide), hI⟩
  · rcases h2 with ⟨o12, o22, pw2, ph2, g0, g1, b0, b1, b2, b3, b4, b5, b6, b7, b8, b9, b10, b11, rfl, rfl⟩ | ⟨b0, rfl, rfl⟩ | ⟨o12, o22, g0, g1, b0, b1, b2, rfl, rfl⟩ | ⟨o12, o22, g0, g1, b0, b1, b2, b3, b4, rfl, rfl⟩
    · exact absurd (by rw [g0, g1]; exact ⟨cs_ch b0, cs_ch b1⟩) a0
    · exact ⟨rfl, fun h => absurd h (by decide), hI⟩
    · exact absurd (by rw [g0, g1]; exact ⟨cs_ch b0, cs_ch b1⟩) a0
    · exact absurd (by rw [g0, g1]; exact ⟨cs_ch b0, cs_ch b1⟩) a0
  · rcases h2 with ⟨o12, o22, pw2, ph2, g0, g1, b0, b1, b2, b3, b4, b5, b6, b7, b8, b9, b10, b11, rfl, rfl⟩ | ⟨b0, rfl, rfl⟩ | ⟨o12, o22, g0, g1, b0, b1, b2, rfl, rfl⟩ | ⟨o12, o22, g0, g1, b0, b1, b2, b3, b4, rfl, rfl⟩
    · have w := nI_inj (b := 0) (g0.symm.trans e0) (by omega) (by decide)
      have w2 := nI_inj (b := 0) (g1.symm.trans e1) (by omega) (by decide)
      subst w
      subst w2
      obtain ⟨r1, r2⟩ := ap_d (fou := fun _ => 0) (fouN := fun _ => 0) (hI.1.pic) (hI.1.pic) (Or.inr (Or.inl ⟨a0, rfl⟩)) (Or.inl ⟨pw2, ph2, b2, b3, b4, b5, b6, b7, b8.2, b9.2, rfl, rfl⟩)
      exact ⟨r1, fun h => absurd h (by decide), hI⟩
    · exact absurd (by rw [e0, e1]; decide) b0
    · have w := nI_inj (b := 0) (g0.symm.trans e0) (by omega) (by decide)
      have w2 := nI_inj (b := 0) (g1.symm.trans e1) (by omega) (by decide)
      subst w
      subst w2
      obtain ⟨r1, r2⟩ := ap_d (fou := fun _ => 0) (fouN := fun _ => 0) (b := 0) (hI.1.pic) (hI.1.pic) (Or.inr (Or.inl ⟨a0, rfl⟩)) (Or.inr (Or.inl ⟨b2, rfl⟩))
      exact ⟨r1, fun h => absurd h (by decide), hI⟩
    · have w := nI_inj (b := 0) (g0.symm.trans e0) (by omega) (by decide)
      have w2 := nI_inj (b := 0) (g1.symm.trans e1) (by omega) (by decide)
      subst w
      subst w2
      obtain ⟨r1, r2⟩ := ap_d (fou := fun _ => 0) (fouN := fun _ => 0) (b := 0) (hI.1.pic) (hI.1.pic) (Or.inr (Or.inl ⟨a0, rfl⟩)) (Or.inr (Or.inr ⟨b2, b3, b4, rfl⟩))
      exact ⟨r1, fun h => absurd h (by decide), hI⟩
  · rcases h2 with ⟨o12, o22, pw2, ph2, g0, g1, b0, b1, b2, b3, b4, b5, b6, b7, b8, b9, b10, b11, rfl, rfl⟩ | ⟨b0, rfl, rfl⟩ | ⟨o12, o22, g0, g1, b0, b1, b2, rfl, rfl⟩ | ⟨o12, o22, g0, g1, b0, b1, b2, b3, b4, rfl, rfl⟩
    · have w := nI_inj (b := 0) (g0.symm.trans e0) (by omega) (by decide)
      have w2 := nI_inj (b := 1) (g1.symm.trans e1) (by omega) (by decide)
      subst w
      subst w2
      obtain ⟨r1, r2⟩ := ap_d (fou := fun _ => 0) (fouN := fun _ => 0) (hI.1.pic) (A1) (Or.inr (Or.inl ⟨a0, rfl⟩)) (Or.inl ⟨pw2, ph2, b2, b3, b4, b5, b6, b7, b8.2, b9.2, rfl, rfl⟩)
      exact ⟨r1, fun h => absurd h (by decide), hI⟩
    · exact absurd (by rw [e0, e1]; decide) b0
    · have w := nI_inj (b := 0) (g0.symm.trans e0) (by omega) (by decide)
      have w2 := nI_inj (b := 1) (g1.symm.trans e1) (by omega) (by decide)
      subst w
      subst w2
      obtain ⟨r1, r2⟩ := ap_d (fou := fun _ => 0) (fouN := fun _ => 0) (b := 0) (hI.1.pic) (A1) (Or.inr (Or.inl ⟨a0, rfl⟩)) (Or.inr (Or.inl ⟨b2, rfl⟩))
      exact ⟨r1, fun h => absurd h (by decide), hI⟩
    · have w := nI_inj (b := 0) (g0.symm.trans e0) (by omega) (by decide)
      have w2 := nI_inj (b := 1) (g1.symm.trans e1) (by omega) (by decide)
      subst w
      subst w2
      obtain ⟨r1, r2⟩ := ap_d (fou := fun _ => 0) (fouN := fun _ => 0) (b := 0) (hI.1.pic) (A1) (Or.inr (Or.inl ⟨a0, rfl⟩)) (Or.inr (Or.inr ⟨b2, b3, b4, rfl⟩))
      exact ⟨r1, fun h => absurd h (by decide), hI⟩
  · rcases h2 with ⟨o12, o22, pw2, ph2, g0, g1, b0, b1, b2, b3, b4, b5, b6, b7, b8, b9, b10, b11, rfl, rfl⟩ | ⟨b0, rfl, rfl⟩ | ⟨o12, o22, g0, g1, b0, b1, b2, rfl, rfl⟩ | ⟨o12, o22, g0, g1, b0, b1, b2, b3, b4, rfl, rfl⟩
    · have w := nI_inj (b := 0) (g0.symm.trans e0) (by omega) (by decide)
      have w2 := nI_inj (b := 1) (g1.symm.trans e1) (by omega) (by decide)
      subst w
      subst w2
      obtain ⟨r1, r2⟩ := ap_d (fou := fun _ => 0) (fouN := fun _ => 0) (hI.1.pic) (A1) (Or.inr (Or.inr ⟨a0, a1, a2, rfl⟩)) (Or.inl ⟨pw2, ph2, b2, b3, b4, b5, b6, b7, b8.2, b9.2, rfl, rfl⟩)
      exact ⟨r1, fun h => absurd h (by decide), hI⟩
    · exact absurd (by rw [e0, e1]; decide) b0
    · have w := nI_inj (b := 0) (g0.symm.trans e0) (by omega) (by decide)
      have w2 := nI_inj (b := 1) (g1.symm.trans e1) (by omega) (by decide)
      subst w
      subst w2
      obtain ⟨r1, r2⟩ := ap_d (fou := fun _ => 0) (fouN := fun _ => 0) (b := 0) (hI.1.pic) (A1) (Or.inr (Or.inr ⟨a0, a1, a2, rfl⟩)) (Or.inr (Or.inl ⟨b2, rfl⟩))
      exact ⟨r1, fun h => absurd h (by decide), hI⟩
    · have w := nI_inj (b := 0) (g0.symm.trans e0) (by omega) (by decide)
      have w2 := nI_inj (b := 1) (g1.symm.trans e1) (by omega) (by decide)
      subst w
      subst w2
      obtain ⟨r1, r2⟩ := ap_d (fou := fun _ => 0) (fouN := fun _ => 0) (b := 0) (hI.1.pic) (A1) (Or.inr (Or.inr ⟨a0, a1, a2, rfl⟩)) (Or.inr (Or.inr ⟨b2, b3, b4, rfl⟩))
      exact ⟨r1, fun h => absurd h (by decide), hI⟩
  · rcases h2 with ⟨o12, o22, pw2, ph2, g0, g1, b0, b1, b2, b3, b4, b5, b6, b7, b8, b9, b10, b11, rfl, rfl⟩ | ⟨b0, rfl, rfl⟩ | ⟨o12, o22, g0, g1, b0, b1, b2, rfl, rfl⟩ | ⟨o12, o22, g0, g1, b0, b1, b2, b3, b4, rfl, rfl⟩
    · have w := nI_inj (b := 0) (g0.symm.trans e0) (by omega) (by decide)
      have w2 := nI_inj (b := 2) (g1.symm.trans e1) (by omega) (by decide)
      subst w
      subst w2
      obtain ⟨r1, r2⟩ := ap_d (fou := fun _ => 0) (fouN := fun _ => 0) (hI.1.pic) (A2) (Or.inr (Or.inl ⟨a0, rfl⟩)) (Or.inl ⟨pw2, ph2, b2, b3, b4, b5, b6, b7, b8.2, b9.2, rfl, rfl⟩)
      exact ⟨r1, fun h => absurd h (by decide), hI⟩
    · exact absurd (by rw [e0, e1]; decide) b0
    · have w := nI_inj (b := 0) (g0.symm.trans e0) (by omega) (by decide)
      have w2 := nI_inj (b := 2) (g1.symm.trans e1) (by omega) (by decide)
      subst w
      subst w2
      obtain ⟨r1, r2⟩ := ap_d (fou := fun _ => 0) (fouN := fun _ => 0) (b := 0) (hI.1.pic) (A2) (Or.inr (Or.inl ⟨a0, rfl⟩)) (Or.inr (Or.inl ⟨b2, rfl⟩))
      exact ⟨r1, fun h => absurd h (by decide), hI⟩
    · have w := nI_inj (b := 0) (g0.symm.trans e0) (by omega) (by decide)
      have w2 := nI_inj (b := 2) (g1.symm.trans e1) (by omega) (by decide)
      subst w
      subst w2
      obtain ⟨r1, r2⟩ := ap_d (fou := fun _ => 0) (fouN := fun _ => 0) (b := 0) (hI.1.pic) (A2) (Or.inr (Or.inl ⟨a0, rfl⟩)) (Or.inr (Or.inr ⟨b2, b3, b4, rfl⟩))
      exact ⟨r1, fun h => absurd h (by decide), hI⟩
  · rcases h2 with ⟨o12, o22, pw2, ph2, g0, g1, b0, b1, b2, b3, b4, b5, b6, b7, b8, b9, b10, b11, rfl, rfl⟩ | ⟨b0, rfl, rfl⟩ | ⟨o12, o22, g0, g1, b0, b1, b2, rfl, rfl⟩ | ⟨o12, o22, g0, g1, b0, b1, b2, b3, b4, rfl, rfl⟩
    · have w := nI_inj (b := 0) (g0.symm.trans e0) (by omega) (by decide)
      have w2 := nI_inj (b := 2) (g1.symm.trans e1) (by omega) (by decide)
      subst w
      subst w2
      obtain ⟨r1, r2⟩ := ap_d (fou := fun _ => 0) (fouN := fun _ => 0) (hI.1.pic) (A2) (Or.inr (Or.inr ⟨a0, a1, a2, rfl⟩)) (Or.inl ⟨pw2, ph2, b2, b3, b4, b5, b6, b7, b8.2, b9.2, rfl, rfl⟩)
      exact ⟨r1, fun h => absurd h (by decide), hI⟩
    · exact absurd (by rw [e0, e1]; decide) b0
    · have w := nI_inj (b := 0) (g0.symm.trans e0) (by omega) (by decide)
      have w2 := nI_inj (b := 2) (g1.symm.trans e1) (by omega) (by decide)
      subst w
      subst w2
      obtain ⟨r1, r2⟩ := ap_d (fou := fun _ => 0) (fouN := fun _ => 0) (b := 0) (hI.1.pic) (A2) (Or.inr (Or.inr ⟨a0, a1, a2, rfl⟩)) (Or.inr (Or.inl ⟨b2, rfl⟩))
      exact ⟨r1, fun h => absurd h (by decide), hI⟩
    · have w := nI_inj (b := 0) (g0.symm.trans e0) (by omega) (by decide)
      have w2 := nI_inj (b := 2) (g1.symm.trans e1) (by omega) (by decide)
      subst w
      subst w2
      obtain ⟨r1, r2⟩ := ap_d (fou := fun _ => 0) (fouN := fun _ => 0) (b := 0) (hI.1.pic) (A2) (Or.inr (Or.inr ⟨a0, a1, a2, rfl⟩)) (Or.inr (Or.inr ⟨b2, b3, b4, rfl⟩))
      exact ⟨r1, fun h => absurd h (by decide), hI⟩
  · rcases h2 with ⟨o12, o22, pw2, ph2, g0, g1, b0, b1, b2, b3, b4, b5, b6, b7, b8, b9, b10, b11, rfl, rfl⟩ | ⟨b0, rfl, rfl⟩ | ⟨o12, o22, g0, g1, b0, b1, b2, rfl, rfl⟩ | ⟨o12, o22, g0, g1, b0, b1, b2, b3, b4, rfl, rfl⟩
    · have w := nI_inj (b := 1) (g0.symm.trans e0) (by omega) (by decide)
      have w2 := nI_inj (b := 0) (g1.symm.trans e1) (by omega) (by decide)
      subst w
      subst w2
      obtain ⟨r1, r2⟩ := ap_d (fou := fun _ => 0) (fouN := fun _ => 0) (A1) (hI.1.pic) (Or.inr (Or.inl ⟨a0, rfl⟩)) (Or.inl ⟨pw2, ph2, b2, b3, b4, b5, b6, b7, b8.2, b9.2, rfl, rfl⟩)
      exact ⟨r1, fun h => absurd h (by decide), hI⟩
    · exact absurd (by rw [e0, e1]; decide) b0
    · have w := nI_inj (b := 1) (g0.symm.trans e0) (by omega) (by decide)
      have w2 := nI_inj (b := 0) (g1.symm.trans e1) (by omega) (by decide)
      subst w
      subst w2
      obtain ⟨r1, r2⟩ := ap_d (fou := fun _ => 0) (fouN := fun _ => 0) (b := 0) (A1) (hI.1.pic) (Or.inr (Or.inl ⟨a0, rfl⟩)) (Or.inr (Or.inl ⟨b2, rfl⟩))
      exact ⟨r1, fun h => absurd h (by decide), hI⟩
    · have w := nI_inj (b := 1) (g0.symm.trans e0) (by omega) (by decide)
      have w2 := nI_inj (b := 0) (g1.symm.trans e1) (by omega) (by decide)
      subst w
      subst w2
      obtain ⟨r1, r2⟩ := ap_d (fou := fun _ => 0) (fouN := fun _ => 0) (b := 0) (A1) (hI.1.pic) (Or.inr (Or.inl ⟨a0, rfl⟩)) (Or.inr (Or.inr ⟨b2, b3, b4, rfl⟩))
      exact ⟨r1, fun h => absurd h (by decide), hI⟩
  · rcases h2 with ⟨o12, o22, pw2, ph2, g0, g1, b0, b1, b2, b3, b4, b5, b6, b7, b8, b9, b10, b11, rfl, rfl⟩ | ⟨b0, rfl, rfl⟩ | ⟨o12, o22, g0, g1, b0, b1, b2, rfl, rfl⟩ | ⟨o12, o22, g0, g1, b0, b1, b2, b3, b4, rfl, rfl⟩
    · have w := nI_inj (b := 1) (g0.symm.trans e0) (by omega) (by decide)
      have w2 := nI_inj (b := 0) (g1.symm.trans e1) (by omega) (by decide)
      subst w
      subst w2
      obtain ⟨r1, r2⟩ := ap_d (fou := fun _ => 0) (fouN := fun _ => 0) (A1) (hI.1.pic) (Or.inr (Or.inr ⟨a0, a1, a2, rfl⟩)) (Or.inl ⟨pw2, ph2, b2, b3, b4, b5, b6, b7, b8.2, b9.2, rfl, rfl⟩)
      exact ⟨r1, fun h => absurd h (by decide), hI⟩
    · exact absurd (by rw [e0, e1]; decide) b0
    · have w := nI_inj (b := 1) (g0.symm.trans e0) (by omega) (by decide)
      have w2 := nI_inj (b := 0) (g1.symm.trans e1) (by omega) (by decide)
      subst w
      subst w2
      obtain ⟨r1, r2⟩ := ap_d (fou := fun _ => 0) (fouN := fun _ => 0) (b := 0) (A1) (hI.1.pic) (Or.inr (Or.inr ⟨a0, a1, a2, rfl⟩)) (Or.inr (Or.inl ⟨b2, rfl⟩))
      exact ⟨r1, fun h => absurd h (by decide), hI⟩
    · have w := nI_inj (b := 1) (g0.symm.trans e0) (by omega) (by decide)
      have w2 := nI_inj (b := 0) (g1.symm.trans e1) (by omega) (by decide)
      subst w
      subst w2
      obtain ⟨r1, r2⟩ := ap_d (fou := fun _ => 0) (fouN := fun _ => 0) (b := 0) (A1) (hI.1.pic) (Or.inr (Or.inr ⟨a0, a1, a2, rfl⟩)) (Or.inr (Or.inr ⟨b2, b3, b4, rfl⟩))
      exact ⟨r1, fun h => absurd h (by decide), hI⟩
  · rcases h2 with ⟨o12, o22, pw2, ph2, g0, g1, b0, b1, b2, b3, b4, b5, b6, b7, b8, b9, b10, b11, rfl, rfl⟩ | ⟨b0, rfl, rfl⟩ | ⟨o12, o22, g0, g1, b0, b1, b2, rfl, rfl⟩ | ⟨o12, o22, g0, g1, b0, b1, b2, b3, b4, rfl, rfl⟩
    · have w := nI_inj (b := 1) (g0.symm.trans e0) (by omega) (by decide)
      have w2 := nI_inj (b := 1) (g1.symm.trans e1) (by omega) (by decide)
      subst w
      subst w2
      obtain ⟨r1, r2⟩ := ap_d (fou := fun _ => 0) (fouN := fun _ => 0) (A1) (A1) (Or.inr (Or.inl ⟨a0, rfl⟩)) (Or.inl ⟨pw2, ph2, b2, b3, b4, b5, b6, b7, b8.2, b9.2, rfl, rfl⟩)
      exact ⟨r1, fun h => absurd h (by decide), hI⟩
    · exact absurd (by rw [e0, e1]; decide) b0
    · have w := nI_inj (b := 1) (g0.symm.trans e0) (by omega) (by decide)
      have w2 := nI_inj (b := 1) (g1.symm.trans e1) (by omega) (by decide)
      subst w
      subst w2
      obtain ⟨r1, r2⟩ := ap_d (fou := fun _ => 0) (fouN := fun _ => 0) (b := 0) (A1) (A1) (Or.inr (Or.inl ⟨a0, rfl⟩)) (Or.inr (Or.inl ⟨b2, rfl⟩))
      exact ⟨r1, fun h => absurd h (by decide), hI⟩
    · have w := nI_inj (b := 1) (g0.symm.trans e0) (by omega) (by decide)
      have w2 := nI_inj (b := 1) (g1.symm.trans e1) (by omega) (by decide)
      subst w
      subst w2
      obtain ⟨r1, r2⟩ := ap_d (fou := fun _ => 0) (fouN := fun _ => 0) (b := 0) (A1) (A1) (Or.inr (Or.inl ⟨a0, rfl⟩)) (Or.inr (Or.inr ⟨b2, b3, b4, rfl⟩))
      exact ⟨r1, fun h => absurd h (by decide), hI⟩
  · rcases h2 with ⟨o12, o22, pw2, ph2, g0, g1, b0, b1, b2, b3, b4, b5, b6, b7, b8, b9, b10, b11, rfl, rfl⟩ | ⟨b0, rfl, rfl⟩ | ⟨o12, o22, g0, g1, b0, b1, b2, rfl, rfl⟩ | ⟨o12, o22, g0, g1, b0, b1, b2, b3, b4, rfl, rfl⟩
    · have w := nI_inj (b := 1) (g0.symm.trans e0) (by omega) (by decide)
      have w2 := nI_inj (b := 2) (g1.symm.trans e1) (by omega) (by decide)
      subst w
      subst w2
      obtain ⟨r1, r2⟩ := ap_d (fou := fun _ => 0) (fouN := fun _ => 0) (A1) (A2) (Or.inr (Or.inl ⟨a0, rfl⟩)) (Or.inl ⟨pw2, ph2, b2, b3, b4, b5, b6, b7, b8.2, b9.2, rfl, rfl⟩)
      exact ⟨r1, fun h => absurd h (by decide), hI⟩
    · exact absurd (by rw [e0, e1]; decide) b0
    · have w := nI_inj (b := 1) (g0.symm.trans e0) (by omega) (by decide)
      have w2 := nI_inj (b := 2) (g1.symm.trans e1) (by omega) (by decide)
      subst w
      subst w2
      obtain ⟨r1, r2⟩ := ap_d (fou := fun _ => 0) (fouN := fun _ => 0) (b := 0) (A1) (A2) (Or.inr (Or.inl ⟨a0, rfl⟩)) (Or.inr (Or.inl ⟨b2, rfl⟩))
      exact ⟨r1, fun h => absurd h (by decide), hI⟩
    · have w := nI_inj (b := 1) (g0.symm.trans e0) (by omega) (by decide)
      have w2 := nI_inj (b := 2) (g1.symm.trans e1) (by omega) (by decide)
      subst w
      subst w2
      obtain ⟨r1, r2⟩ := ap_d (fou := fun _ => 0) (fouN := fun _ => 0) (b := 0) (A1) (A2) (Or.inr (Or.inl ⟨a0, rfl⟩)) (Or.inr (Or.inr ⟨b2, b3, b4, rfl⟩))
      exact ⟨r1, fun h => absurd h (by decide), hI⟩
  · rcases h2 with ⟨o12, o22, pw2, ph2, g0, g1, b0, b1, b2, b3, b4, b5, b6, b7, b8, b9, b10, b11, rfl, rfl⟩ | ⟨b0, rfl, rfl⟩ | ⟨o12, o22, g0, g1, b0, b1, b2, rfl, rfl⟩ | ⟨o12, o22, g0, g1, b0, b1, b2, b3, b4, rfl, rfl⟩
    · have w := nI_inj (b := 1) (g0.symm.trans e0) (by omega) (by decide)
      have w2 := nI_inj (b := 2) (g1.symm.trans e1) (by omega) (by decide)
      subst w
      subst w2
      obtain ⟨r1, r2⟩ := ap_d (fou := fun _ => 0) (fouN := fun _ => 0) (A1) (A2) (Or.inr (Or.inr ⟨a0, a1, a2, rfl⟩)) (Or.inl ⟨pw2, ph2, b2, b3, b4, b5, b6, b7, b8.2, b9.2, rfl, rfl⟩)
      exact ⟨r1, fun h => absurd h (by decide), hI⟩
    · exact absurd (by rw [e0, e1]; decide) b0
    · have w := nI_inj (b := 1) (g0.symm.trans e0) (by omega) (by decide)
      have w2 := nI_inj (b := 2) (g1.symm.trans e1) (by omega) (by decide)
      subst w
      subst w2
      obtain ⟨r1, r2⟩ := ap_d (fou := fun _ => 0) (fouN := fun _ => 0) (b := 0) (A1) (A2) (Or.inr (Or.inr ⟨a0, a1, a2, rfl⟩)) (Or.inr (Or.inl ⟨b2, rfl⟩))
      exact ⟨r1, fun h => absurd h (by decide), hI⟩
    · have w := nI_inj (b := 1) (g0.symm.trans e0) (by omega) (by decide)
      have w2 := nI_inj (b := 2) (g1.symm.trans e1) (by omega) (by decide)
      subst w
      subst w2
      obtain ⟨r1, r2⟩ := ap_d (fou := fun _ => 0) (fouN := fun _ => 0) (b := 0) (A1) (A2) (Or.inr (Or.inr ⟨a0, a1, a2, rfl⟩)) (Or.inr (Or.inr ⟨b2, b3, b4, rfl⟩))
      exact ⟨r1, fun h => absurd h (by decide), hI⟩
  · rcases h2 with ⟨o12, o22, pw2, ph2, g0, g1, b0, b1, b2, b3, b4, b5, b6, b7, b8, b9, b10, b11, rfl, rfl⟩ | ⟨b0, rfl, rfl⟩ | ⟨o12, o22, g0, g1, b0, b1, b2, rfl, rfl⟩ | ⟨o12, o22, g0, g1, b0, b1, b2, b3, b4, rfl, rfl⟩
    · have w := nI_inj (b := 2) (g0.symm.trans e0) (by omega) (by decide)
      have w2 := nI_inj (b := 0) (g1.symm.trans e1) (by omega) (by decide)
      subst w
      subst w2
      obtain ⟨r1, r2⟩ := ap_d (fou := fun _ => 0) (fouN := fun _ => 0) (A2) (hI.1.pic) (Or.inr (Or.inl ⟨a0, rfl⟩)) (Or.inl ⟨pw2, ph2, b2, b3, b4, b5, b6, b7, b8.2, b9.2, rfl, rfl⟩)
      exact ⟨r1, fun h => absurd h (by decide), hI⟩
    · exact absurd (by rw [e0, e1]; decide) b0
    · have w := nI_inj (b := 2) (g0.symm.trans e0) (by omega) (by decide)
      have w2 := nI_inj (b := 0) (g1.symm.trans e1) (by omega) (by decide)
      subst w
      subst w2
      obtain ⟨r1, r2⟩ := ap_d (fou := fun _ => 0) (fouN := fun _ => 0) (b := 0) (A2) (hI.1.pic) (Or.inr (Or.inl ⟨a0, rfl⟩)) (Or.inr (Or.inl ⟨b2, rfl⟩))
      exact ⟨r1, fun h => absurd h (by decide), hI⟩
    · have w := nI_inj (b := 2) (g0.symm.trans e0) (by omega) (by decide)
      have w2 := nI_inj (b := 0) (g1.symm.trans e1) (by omega) (by decide)
      subst w
      subst w2
      obtain ⟨r1, r2⟩ := ap_d (fou := fun _ => 0) (fouN := fun _ => 0) (b := 0) (A2) (hI.1.pic) (Or.inr (Or.inl ⟨a0, rfl⟩)) (Or.inr (Or.inr ⟨b2, b3, b4, rfl⟩))
      exact ⟨r1, fun h => absurd h (by decide), hI⟩
  · rcases h2 with ⟨o12, o22, pw2, ph2, g0, g1, b0, b1, b2, b3, b4, b5, b6, b7, b8, b9, b10, b11, rfl, rfl⟩ | ⟨b0, rfl, rfl⟩ | ⟨o12, o22, g0, g1, b0, b1, b2, rfl, rfl⟩ | ⟨o12, o22, g0, g1, b0, b1, b2, b3, b4, rfl, rfl⟩
    · have w := nI_inj (b := 2) (g0.symm.trans e0) (by omega) (by decide)
      have w2 := nI_inj (b := 0) (g1.symm.trans e1) (by omega) (by decide)
      subst w
      subst w2
      obtain ⟨r1, r2⟩ := ap_d (fou := fun _ => 0) (fouN := fun _ => 0) (A2) (hI.1.pic) (Or.inr (Or.inr ⟨a0, a1, a2, rfl⟩)) (Or.inl ⟨pw2, ph2, b2, b3, b4, b5, b6, b7, b8.2, b9.2, rfl, rfl⟩)
      exact ⟨r1, fun h => absurd h (by decide), hI⟩
    · exact absurd (by rw [e0, e1]; decide) b0
    · have w := nI_inj (b := 2) (g0.symm.trans e0) (by omega) (by decide)
      have w2 := nI_inj (b := 0) (g1.symm.trans e1) (by omega) (by decide)
      subst w
      subst w2
      obtain ⟨r1, r2⟩ := ap_d (fou := fun _ => 0) (fouN := fun _ => 0) (b := 0) (A2) (hI.1.pic) (Or.inr (Or.inr ⟨a0, a1, a2, rfl⟩)) (Or.inr (Or.inl ⟨b2, rfl⟩))
      exact ⟨r1, fun h => absurd h (by decide), hI⟩
    · have w := nI_inj (b := 2) (g0.symm.trans e0) (by omega) (by decide)
      have w2 := nI_inj (b := 0) (g1.symm.trans e1) (by omega) (by decide)
      subst w
      subst w2
      obtain ⟨r1, r2⟩ := ap_d (fou := fun _ => 0) (fouN := fun _ => 0) (b := 0) (A2) (hI.1.pic) (Or.inr (Or.inr ⟨a0, a1, a2, rfl⟩)) (Or.inr (Or.inr ⟨b2, b3, b4, rfl⟩))
      exact ⟨r1, fun h => absurd h (by decide), hI⟩
  · rcases h2 with ⟨o12, o22, pw2, ph2, g0, g1, b0, b1, b2, b3, b4, b5, b6, b7, b8, b9, b10, b11, rfl, rfl⟩ | ⟨b0, rfl, rfl⟩ | ⟨o12, o22, g0, g1, b0, b1, b2, rfl, rfl⟩ | ⟨o12, o22, g0, g1, b0, b1, b2, b3, b4, rfl, rfl⟩
    · have w := nI_inj (b := 2) (g0.symm.trans e0) (by omega) (by decide)
      have w2 := nI_inj (b := 1) (g1.symm.trans e1) (by omega) (by decide)
      subst w
      subst w2
      obtain ⟨r1, r2⟩ := ap_d (fou := fun _ => 0) (fouN := fun _ => 0) (A2) (A1) (Or.inr (Or.inl ⟨a0, rfl⟩)) (Or.inl ⟨pw2, ph2, b2, b3, b4, b5, b6, b7, b8.2, b9.2, rfl, rfl⟩)
      exact ⟨r1, fun h => absurd h (by decide), hI⟩
    · exact absurd (by rw [e0, e1]; decide) b0
    · have w := nI_inj (b := 2) (g0.symm.trans e0) (by omega) (by decide)
      have w2 := nI_inj (b := 1) (g1.symm.trans e1) (by omega) (by decide)
      subst w
      subst w2
      obtain ⟨r1, r2⟩ := ap_d (fou := fun _ => 0) (fouN := fun _ => 0) (b := 0) (A2) (A1) (Or.inr (Or.inl ⟨a0, rfl⟩)) (Or.inr (Or.inl ⟨b2, rfl⟩))
      exact ⟨r1, fun h => absurd h (by decide), hI⟩
    · have w := nI_inj (b := 2) (g0.symm.trans e0) (by omega) (by decide)
      have w2 := nI_inj (b := 1) (g1.symm.trans e1) (by omega) (by decide)
      subst w
      subst w2
      obtain ⟨r1, r2⟩ := ap_d (fou := fun _ => 0) (fouN := fun _ => 0) (b := 0) (A2) (A1) (Or.inr (Or.inl ⟨a0, rfl⟩)) (Or.inr (Or.inr ⟨b2, b3, b4, rfl⟩))
      exact ⟨r1, fun h => absurd h (by decide), hI⟩
  · rcases h2 with ⟨o12, o22, pw2, ph2, g0, g1, b0, b1, b2, b3, b4, b5, b6, b7, b8, b9, b10, b11, rfl, rfl⟩ | ⟨b0, rfl, rfl⟩ | ⟨o12, o22, g0, g1, b0, b1, b2, rfl, rfl⟩ | ⟨o12, o22, g0, g1, b0, b1, b2, b3, b4, rfl, rfl⟩
    · have w := nI_inj (b := 2) (g0.symm.trans e0) (by omega) (by decide)
      have w2 := nI_inj (b := 1) (g1.symm.trans e1) (by omega) (by decide)
      subst w
      subst w2
      obtain ⟨r1, r2⟩ := ap_d (fou := fun _ => 0) (fouN := fun _ => 0) (A2) (A1) (Or.inr (Or.inr ⟨a0, a1, a2, rfl⟩)) (Or.inl ⟨pw2, ph2, b2, b3, b4, b5, b6, b7, b8.2, b9.2, rfl, rfl⟩)
      exact ⟨r1, fun h => absurd h (by decide), hI⟩
    · exact absurd (by rw [e0, e1]; decide) b0
    · have w := nI_inj (b := 2) (g0.symm.trans e0) (by omega) (by decide)
      have w2 := nI_inj (b := 1) (g1.symm.trans e1) (by omega) (by decide)
      subst w
      subst w2
      obtain ⟨r1, r2⟩ := ap_d (fou := fun _ => 0) (fouN := fun _ => 0) (b := 0) (A2) (A1) (Or.inr (Or.inr ⟨a0, a1, a2, rfl⟩)) (Or.inr (Or.inl ⟨b2, rfl⟩))
      exact ⟨r1, fun h => absurd h (by decide), hI⟩
    · have w := nI_inj (b := 2) (g0.symm.trans e0) (by omega) (by decide)
      have w2 := nI_inj (b := 1) (g1.symm.trans e1) (by omega) (by decide)
      subst w
      subst w2
      obtain ⟨r1, r2⟩ := ap_d (fou := fun _ => 0) (fouN := fun _ => 0) (b := 0) (A2) (A1) (Or.inr (Or.inr ⟨a0, a1, a2, rfl⟩)) (Or.inr (Or.inr ⟨b2, b3, b4, rfl⟩))
      exact ⟨r1, fun h => absurd h (by decide), hI⟩
  · rcases h2 with ⟨o12, o22, pw2, ph2, g0, g1, b0, b1, b2, b3, b4, b5, b6, b7, b8, b9, b10, b11, rfl, rfl⟩ | ⟨b0, rfl, rfl⟩ | ⟨o12, o22, g0, g1, b0, b1, b2, rfl, rfl⟩ | ⟨o12, o22, g0, g1, b0, b1, b2, b3, b4, rfl, rfl⟩
    · have w := nI_inj (b := 2) (g0.symm.trans e0) (by omega) (by decide)
      have w2 := nI_inj (b := 2) (g1.symm.trans e1) (by omega) (by decide)
      subst w
      subst w2
      obtain ⟨r1, r2⟩ := ap_d (fou := fun _ => 0) (fouN := fun _ => 0) (A2) (A2) (Or.inr (Or.inl ⟨a0, rfl⟩)) (Or.inl ⟨pw2, ph2, b2, b3, b4, b5, b6, b7, b8.2, b9.2, rfl, rfl⟩)
      exact ⟨r1, fun h => absurd h (by decide), hI⟩
    · exact absurd (by rw [e0, e1]; decide) b0
    · have w := nI_inj (b := 2) (g0.symm.trans e0) (by omega) (by decide)
      have w2 := nI_inj (b := 2) (g1.symm.trans e1) (by omega) (by decide)
      subst w
      subst w2
      obtain ⟨r1, r2⟩ := ap_d (fou := fun _ => 0) (fouN := fun _ => 0) (b := 0) (A2) (A2) (Or.inr (Or.inl ⟨a0, rfl⟩)) (Or.inr (Or.inl ⟨b2, rfl⟩))
      exact ⟨r1, fun h => absurd h (by decide), hI⟩
    · have w := nI_inj (b := 2) (g0.symm.trans e0) (by omega) (by decide)
      have w2 := nI_inj (b := 2) (g1.symm.trans e1) (by omega) (by decide)
      subst w
      subst w2
      obtain ⟨r1, r2⟩ := ap_d (fou := fun _ => 0) (fouN := fun _ => 0) (b := 0) (A2) (A2) (Or.inr (Or.inl ⟨a0, rfl⟩)) (Or.inr (Or.inr ⟨b2, b3, b4, rfl⟩))
      exact ⟨r1, fun h => absurd h (by decide), hI⟩
