set_option maxHeartbeats 1000000 in
theorem v_size {px : Nat → Int32} {vz : Int32} {vw : Int32} {vh : Int32} {pxc : Nat → Int32} {mdc : Nat → Int32} {vzc : Int32} {vwc : Int32} {vhc : Int32} {vkc : Int32} {pxr : Nat → Int32} {mdr : Nat → Int32} {vzr : Int32} {vwr : Int32} {vhr : Int32} {vkr : Int32} {yt : Nat → Int32} {yl : Nat} {ibc : Int32} {ilc : Int32} {igl : Int32} {ibk : Int32} {ifa : Int32} {ibd : Int32} {wd : Nat → Int32} {hg : Nat → Int32} {pix : Nat → Int32} {str : Nat → Int32} {mds : Nat → Int32} {thr : Nat → Int32} {isz : Int32} {ibl : Int32} {ile : Int32} {igr : Int32} {mbk : Int32} {ist : Int32} {ibr : Int32} {i1 : Int32} {i2 : Int32} (hI : INV px vz vw vh pxc mdc vzc vwc vhc vkc pxr mdr vzr vwr vhr vkr yt yl ibc ilc igl ibk ifa ibd wd hg pix str mds thr isz ibl ile igr mbk ist ibr) : kx_size i1 i2 ∧ km_size i1 i2 := by
  unfold kx_size km_size
  have hI0 := hI
  obtain ⟨⟨z0, t0, ⟨cw0, ch0, hcw0, hch0, ew, eh, mw, mh⟩, hpx⟩, A1, A2, B1, B2, ⟨es, hyl, hyt⟩, ⟨q1, q2, q3, q4, q5⟩, hPX⟩ := hI0
  exact ⟨Classical.em _, Classical.em _⟩
set_option maxHeartbeats 1000000 in
theorem v_count {px : Nat → Int32} {vz : Int32} {vw : Int32} {vh : Int32} {pxc : Nat → Int32} {mdc : Nat → Int32} {vzc : Int32} {vwc : Int32} {vhc : Int32} {vkc : Int32} {pxr : Nat → Int32} {mdr : Nat → Int32} {vzr : Int32} {vwr : Int32} {vhr : Int32} {vkr : Int32} {yt : Nat → Int32} {yl : Nat} {ibc : Int32} {ilc : Int32} {igl : Int32} {ibk : Int32} {ifa : Int32} {ibd : Int32} {wd : Nat → Int32} {hg : Nat → Int32} {pix : Nat → Int32} {str : Nat → Int32} {mds : Nat → Int32} {thr : Nat → Int32} {isz : Int32} {ibl : Int32} {ile : Int32} {igr : Int32} {mbk : Int32} {ist : Int32} {ibr : Int32} {i1 : Int32} (hI : INV px vz vw vh pxc mdc vzc vwc vhc vkc pxr mdr vzr vwr vhr vkr yt yl ibc ilc igl ibk ifa ibd wd hg pix str mds thr isz ibl ile igr mbk ist ibr) : kx_count i1 ∧ km_count i1 := by
  unfold kx_count km_count
  have hI0 := hI
  obtain ⟨⟨z0, t0, ⟨cw0, ch0, hcw0, hch0, ew, eh, mw, mh⟩, hpx⟩, A1, A2, B1, B2, ⟨es, hyl, hyt⟩, ⟨q1, q2, q3, q4, q5⟩, hPX⟩ := hI0
  exact ⟨Classical.em _, Classical.em _⟩
set_option maxHeartbeats 1000000 in
theorem v_pixel {px : Nat → Int32} {vz : Int32} {vw : Int32} {vh : Int32} {pxc : Nat → Int32} {mdc : Nat → Int32} {vzc : Int32} {vwc : Int32} {vhc : Int32} {vkc : Int32} {pxr : Nat → Int32} {mdr : Nat → Int32} {vzr : Int32} {vwr : Int32} {vhr : Int32} {vkr : Int32} {yt : Nat → Int32} {yl : Nat} {ibc : Int32} {ilc : Int32} {igl : Int32} {ibk : Int32} {ifa : Int32} {ibd : Int32} {wd : Nat → Int32} {hg : Nat → Int32} {pix : Nat → Int32} {str : Nat → Int32} {mds : Nat → Int32} {thr : Nat → Int32} {isz : Int32} {ibl : Int32} {ile : Int32} {igr : Int32} {mbk : Int32} {ist : Int32} {ibr : Int32} {i1 : Int32} {i2 : Int32} {i3 : Int32} (hI : INV px vz vw vh pxc mdc vzc vwc vhc vkc pxr mdr vzr vwr vhr vkr yt yl ibc ilc igl ibk ifa ibd wd hg pix str mds thr isz ibl ile igr mbk ist ibr) : kx_pixel vw vh i1 i2 i3 ∧ km_pixel wd hg i1 i2 i3 := by
  unfold kx_pixel km_pixel
  have hI0 := hI
  obtain ⟨⟨z0, t0, ⟨cw0, ch0, hcw0, hch0, ew, eh, mw, mh⟩, hpx⟩, A1, A2, B1, B2, ⟨es, hyl, hyt⟩, ⟨q1, q2, q3, q4, q5⟩, hPX⟩ := hI0
  by_cases hv : ¬ i3 < 0 ∧ ¬ 255 < i3
  · by_cases hin : ∃ x y : Nat, x < 4 * cw0 ∧ y < 4 * ch0 ∧ i1 = nI x ∧ i2 = nI y
    · obtain ⟨x, y, h1, h2, h3, h4⟩ := hin
      exact ⟨Or.inl ⟨x, y, h3, h4, hv, by omega, by omega, by rw [ew]; exact nI_lt h1 (by omega), by rw [eh]; exact nI_lt h2 (by omega)⟩, Or.inl ⟨x, y, 4 * cw0, 4 * ch0, h3, h4, hv, mw, mh, h1, h2, by omega, by omega⟩⟩
    · exact ⟨Or.inr (Or.inr ⟨hv, fun q => hin (has_nI hcw0.2 hch0.2 (by rw [← ew, ← eh]; exact q))⟩), Or.inr (Or.inr ⟨hv, fun q => hin (in2_nI hcw0.2 hch0.2 mw mh q)⟩)⟩
  · exact ⟨Or.inr (Or.inl hv), Or.inr (Or.inl hv)⟩
set_option maxHeartbeats 1000000 in
theorem v_fill {px : Nat → Int32} {vz : Int32} {vw : Int32} {vh : Int32} {pxc : Nat → Int32} {mdc : Nat → Int32} {vzc : Int32} {vwc : Int32} {vhc : Int32} {vkc : Int32} {pxr : Nat → Int32} {mdr : Nat → Int32} {vzr : Int32} {vwr : Int32} {vhr : Int32} {vkr : Int32} {yt : Nat → Int32} {yl : Nat} {ibc : Int32} {ilc : Int32} {igl : Int32} {ibk : Int32} {ifa : Int32} {ibd : Int32} {wd : Nat → Int32} {hg : Nat → Int32} {pix : Nat → Int32} {str : Nat → Int32} {mds : Nat → Int32} {thr : Nat → Int32} {isz : Int32} {ibl : Int32} {ile : Int32} {igr : Int32} {mbk : Int32} {ist : Int32} {ibr : Int32} {i1 : Int32} {i2 : Int32} {i3 : Int32} {i4 : Int32} {i5 : Int32} (hI : INV px vz vw vh pxc mdc vzc vwc vhc vkc pxr mdr vzr vwr vhr vkr yt yl ibc ilc igl ibk ifa ibd wd hg pix str mds thr isz ibl ile igr mbk ist ibr) : kx_fill vw vh i1 i2 i3 i4 i5 ∧ km_fill wd hg i1 i2 i3 i4 i5 := by
  unfold kx_fill km_fill
  have hI0 := hI
  obtain ⟨⟨z0, t0, ⟨cw0, ch0, hcw0, hch0, ew, eh, mw, mh⟩, hpx⟩, A1, A2, B1, B2, ⟨es, hyl, hyt⟩, ⟨q1, q2, q3, q4, q5⟩, hPX⟩ := hI0
  by_cases hv : (¬ i3 < 0 ∧ ¬ 255 < i3) ∧ (¬ i4 < (-255) ∧ ¬ 255 < i4) ∧ (¬ i5 < (-255) ∧ ¬ 255 < i5)
  · by_cases hin : ∃ x y : Nat, x < 4 * cw0 ∧ y < 4 * ch0 ∧ i1 = nI x ∧ i2 = nI y
    · obtain ⟨x, y, h1, h2, h3, h4⟩ := hin
      exact ⟨Or.inl ⟨x, y, 4 * cw0, 4 * ch0, h3, h4, ew, eh, hv.1, hv.2.1, hv.2.2, h1, h2, by omega, by omega⟩, Or.inl ⟨x, y, 4 * cw0, 4 * ch0, h3, h4, hv.1, hv.2.1, hv.2.2, mw, mh, h1, h2, by omega, by omega⟩⟩
    · exact ⟨Or.inr (Or.inr ⟨hv.1, hv.2.1, hv.2.2, fun q => hin (has_nI hcw0.2 hch0.2 (by rw [← ew, ← eh]; exact q))⟩), Or.inr (Or.inr ⟨hv.1, hv.2.1, hv.2.2, fun q => hin (in2_nI hcw0.2 hch0.2 mw mh q)⟩)⟩
  · exact ⟨Or.inr (Or.inl hv), Or.inr (Or.inl hv)⟩
set_option maxHeartbeats 1000000 in
theorem v_encode {px : Nat → Int32} {vz : Int32} {vw : Int32} {vh : Int32} {pxc : Nat → Int32} {mdc : Nat → Int32} {vzc : Int32} {vwc : Int32} {vhc : Int32} {vkc : Int32} {pxr : Nat → Int32} {mdr : Nat → Int32} {vzr : Int32} {vwr : Int32} {vhr : Int32} {vkr : Int32} {yt : Nat → Int32} {yl : Nat} {ibc : Int32} {ilc : Int32} {igl : Int32} {ibk : Int32} {ifa : Int32} {ibd : Int32} {wd : Nat → Int32} {hg : Nat → Int32} {pix : Nat → Int32} {str : Nat → Int32} {mds : Nat → Int32} {thr : Nat → Int32} {isz : Int32} {ibl : Int32} {ile : Int32} {igr : Int32} {mbk : Int32} {ist : Int32} {ibr : Int32} {mdd : Nat → Int32} {i1 : Int32} (hI : INV px vz vw vh pxc mdc vzc vwc vhc vkc pxr mdr vzr vwr vhr vkr yt yl ibc ilc igl ibk ifa ibd wd hg pix str mds thr isz ibl ile igr mbk ist ibr) : kx_encode mdd vw vh px i1 ∧ km_encode wd hg pix i1 := by
  unfold kx_encode km_encode
  have hI0 := hI
  obtain ⟨⟨z0, t0, ⟨cw0, ch0, hcw0, hch0, ew, eh, mw, mh⟩, hpx⟩, A1, A2, B1, B2, ⟨es, hyl, hyt⟩, ⟨q1, q2, q3, q4, q5⟩, hPX⟩ := hI0
  by_cases hv : coarP i1
  · refine ⟨?_, Or.inl ⟨cw0, ch0, hv, mw, mh, hcw0.2, hch0.2, hPX⟩⟩
    have hpr : PR px := fun j hj => by rw [hpx j hj]; exact hPX j (by omega)
    obtain ⟨e, he⟩ := ERel_ex cw0 i1 (pix, fun _ => 0, pwF i1 8 (pwF (nI ch0) 8 (pwF (nI cw0) 8 (fun _ => 0) 0) (0 + 8)) (0 + 8 + 8), 24, fun _ => 8, fun _ => 1, 0, 0) (cw0 * ch0)
    have key : ∀ px0 bt0 : Nat → Int32, (∀ j, j < 144 → px0 j = 0) → (∀ j, j < 400 → bt0 j = 0) → (mdS px cw0 i1 (px0, mdd, wrF i1 8 (wrF (nI ch0) 8 (wrF (nI cw0) 8 bt0 0) 8) 16, 24, 8, 1, 8, 1, 0, 0) (cw0 * ch0)).2.2.2.1 = e.2.2.2.1 := fun px0 bt0 h1 h2 =>
      (Sim_all (po := px) hcw0.2 hch0.2 hv (fun j hj => by rw [hpx j hj]; unfold oP; congr 1; omega) (Sim_0 (px0 := px0) (md := mdd) (cw := cw0) (ch := ch0) (q := i1) hPX h2 (fun _ _ => rfl) (fun _ _ => rfl)) (cw0 * ch0) (Nat.le_refl _) e he).2.2.2.1.2.1
    by_cases hf : (e.2.2.2.1 + 7) / 8 ≤ 400
    · exact Or.inl ⟨cw0, ch0, ew, eh, hcw0.2, hch0.2, hpr, hv, fun px0 bt0 h1 h2 => by rw [key px0 bt0 h1 h2]; exact hf⟩
    · exact Or.inr (Or.inr ⟨cw0, ch0, ew, eh, hcw0.2, hch0.2, hpr, hv, fun px0 bt0 h1 h2 => by rw [key px0 bt0 h1 h2]; exact hf⟩)
  · exact ⟨Or.inr (Or.inl hv), Or.inr hv⟩
set_option maxHeartbeats 1000000 in
theorem v_decode {px : Nat → Int32} {vz : Int32} {vw : Int32} {vh : Int32} {pxc : Nat → Int32} {mdc : Nat → Int32} {vzc : Int32} {vwc : Int32} {vhc : Int32} {vkc : Int32} {pxr : Nat → Int32} {mdr : Nat → Int32} {vzr : Int32} {vwr : Int32} {vhr : Int32} {vkr : Int32} {yt : Nat → Int32} {yl : Nat} {ibc : Int32} {ilc : Int32} {igl : Int32} {ibk : Int32} {ifa : Int32} {ibd : Int32} {wd : Nat → Int32} {hg : Nat → Int32} {pix : Nat → Int32} {str : Nat → Int32} {mds : Nat → Int32} {thr : Nat → Int32} {isz : Int32} {ibl : Int32} {ile : Int32} {igr : Int32} {mbk : Int32} {ist : Int32} {ibr : Int32} (hI : INV px vz vw vh pxc mdc vzc vwc vhc vkc pxr mdr vzr vwr vhr vkr yt yl ibc ilc igl ibk ifa ibd wd hg pix str mds thr isz ibl ile igr mbk ist ibr) : kx_decode yl yt ∧ km_decode isz pix str := by
  unfold kx_decode km_decode
  have hI0 := hI
  obtain ⟨⟨z0, t0, ⟨cw0, ch0, hcw0, hch0, ew, eh, mw, mh⟩, hpx⟩, A1, A2, B1, B2, ⟨es, hyl, hyt⟩, ⟨q1, q2, q3, q4, q5⟩, hPX⟩ := hI0
  by_cases hg : ∃ cw ch : Nat, 3 ≤ yl ∧ (1 ≤ cw ∧ cw ≤ 3) ∧ (1 ≤ ch ∧ ch ≤ 3) ∧ yt 0 = nI cw ∧ yt 1 = nI ch ∧ coarP (yt 2)
  · obtain ⟨cw, ch, h0, h1, h2, h3, h4, h5⟩ := hg
    exact ⟨Or.inl ⟨cw, ch, h1, h2, h3, h4, h5, h0, hyl⟩, Or.inl ⟨yl, cw, ch, es, ⟨h0, hyl⟩, by rw [← (hyt 0 (by omega)).1]; exact h3, by rw [← (hyt 1 (by omega)).1]; exact h4, by rw [← (hyt 2 (by omega)).1]; exact h5, h1, h2, hPX⟩⟩
  · have h3 : ¬ nI yl < 3 → 3 ≤ yl := fun q => Nat.not_lt.mp (fun r => q (nI_lt (b := 3) r (by decide)))
    refine ⟨Or.inr (fun ⟨r1, r2, r3, r4⟩ => ?_), Or.inr ⟨yl, es, fun ⟨r1, r2, r3, r4⟩ => ?_⟩⟩
    · have h4 := h3 r1
      obtain ⟨c1, u1, u2⟩ := s4_nI (hyt 0 (by omega)).2 r2
      obtain ⟨c2, u3, u4⟩ := s4_nI (hyt 1 (by omega)).2 r3
      exact hg ⟨c1, c2, h4, u1, u3, u2, u4, r4⟩
    · have h4 := h3 r1
      obtain ⟨c1, u1, u2⟩ := k13_nI r2
      obtain ⟨c2, u3, u4⟩ := k13_nI r3
      exact hg ⟨c1, c2, h4, u1, u3, by rw [(hyt 0 (by omega)).1]; exact u2, by rw [(hyt 1 (by omega)).1]; exact u4, by rw [(hyt 2 (by omega)).1]; exact r4⟩
set_option maxHeartbeats 1000000 in
theorem v_stream {px : Nat → Int32} {vz : Int32} {vw : Int32} {vh : Int32} {pxc : Nat → Int32} {mdc : Nat → Int32} {vzc : Int32} {vwc : Int32} {vhc : Int32} {vkc : Int32} {pxr : Nat → Int32} {mdr : Nat → Int32} {vzr : Int32} {vwr : Int32} {vhr : Int32} {vkr : Int32} {yt : Nat → Int32} {yl : Nat} {ibc : Int32} {ilc : Int32} {igl : Int32} {ibk : Int32} {ifa : Int32} {ibd : Int32} {wd : Nat → Int32} {hg : Nat → Int32} {pix : Nat → Int32} {str : Nat → Int32} {mds : Nat → Int32} {thr : Nat → Int32} {isz : Int32} {ibl : Int32} {ile : Int32} {igr : Int32} {mbk : Int32} {ist : Int32} {ibr : Int32} {i1 : Int32} (hI : INV px vz vw vh pxc mdc vzc vwc vhc vkc pxr mdr vzr vwr vhr vkr yt yl ibc ilc igl ibk ifa ibd wd hg pix str mds thr isz ibl ile igr mbk ist ibr) : kx_stream yl i1 ∧ km_stream isz i1 := by
  unfold kx_stream km_stream
  have hI0 := hI
  obtain ⟨⟨z0, t0, ⟨cw0, ch0, hcw0, hch0, ew, eh, mw, mh⟩, hpx⟩, A1, A2, B1, B2, ⟨es, hyl, hyt⟩, ⟨q1, q2, q3, q4, q5⟩, hPX⟩ := hI0
  by_cases hl : i1 = (-1)
  · exact ⟨Or.inl hl, Or.inr (Or.inl ⟨yl, hl, es, hyl⟩)⟩
  · by_cases hk : ∃ k : Nat, k < yl ∧ i1 = nI k
    · obtain ⟨k, h1, h2⟩ := hk
      exact ⟨Or.inr (Or.inl ⟨k, h2, hyl, h1⟩), Or.inl ⟨yl, k, h2, es, hyl, h1⟩⟩
    · refine ⟨Or.inr (Or.inr ⟨hl, fun ⟨r1, r2, r3⟩ => ?_⟩), Or.inr (Or.inr ⟨yl, es, fun ⟨r1, r2⟩ => hk (in_nI (by omega) ⟨m1_ge r1 hl, r2⟩)⟩)⟩
      obtain ⟨j, hj, rfl⟩ := nI_of r1
      exact hk ⟨j, Nat.not_le.mp (fun q => r2 ((nI_leI (by omega) hj).mpr q)), rfl⟩
set_option maxHeartbeats 1000000 in
theorem v_damage {px : Nat → Int32} {vz : Int32} {vw : Int32} {vh : Int32} {pxc : Nat → Int32} {mdc : Nat → Int32} {vzc : Int32} {vwc : Int32} {vhc : Int32} {vkc : Int32} {pxr : Nat → Int32} {mdr : Nat → Int32} {vzr : Int32} {vwr : Int32} {vhr : Int32} {vkr : Int32} {yt : Nat → Int32} {yl : Nat} {ibc : Int32} {ilc : Int32} {igl : Int32} {ibk : Int32} {ifa : Int32} {ibd : Int32} {wd : Nat → Int32} {hg : Nat → Int32} {pix : Nat → Int32} {str : Nat → Int32} {mds : Nat → Int32} {thr : Nat → Int32} {isz : Int32} {ibl : Int32} {ile : Int32} {igr : Int32} {mbk : Int32} {ist : Int32} {ibr : Int32} {i1 : Int32} {i2 : Int32} (hI : INV px vz vw vh pxc mdc vzc vwc vhc vkc pxr mdr vzr vwr vhr vkr yt yl ibc ilc igl ibk ifa ibd wd hg pix str mds thr isz ibl ile igr mbk ist ibr) : kx_damage yl i1 i2 ∧ km_damage isz i1 i2 := by
  unfold kx_damage km_damage
  have hI0 := hI
  obtain ⟨⟨z0, t0, ⟨cw0, ch0, hcw0, hch0, ew, eh, mw, mh⟩, hpx⟩, A1, A2, B1, B2, ⟨es, hyl, hyt⟩, ⟨q1, q2, q3, q4, q5⟩, hPX⟩ := hI0
  by_cases hv : ¬ i2 < 0 ∧ ¬ 255 < i2
  · by_cases hk : ∃ k : Nat, k < yl ∧ i1 = nI k
    · obtain ⟨k, h1, h2⟩ := hk
      exact ⟨Or.inl ⟨k, h2, hyl, hv, h1⟩, Or.inl ⟨yl, k, h2, es, hyl, hv, h1⟩⟩
    · by_cases ht : yl < 400 ∧ i1 = nI yl
      · exact ⟨Or.inr (Or.inl ⟨ht.2, ht.1, hv⟩), Or.inr (Or.inl ⟨yl, ht.2, es, ht.1, hv⟩)⟩
      · have key : ∀ j : Nat, j < 2 ^ 31 → i1 = nI j → ¬ nI yl < i1 → j = yl := fun j hj e r => by
          rw [e] at r
          have h8 : ¬ yl < j := fun q => r ((nI_ltI (by omega) hj).mpr q)
          have h9 : ¬ j < yl := fun q => hk ⟨j, q, e⟩
          omega
        refine ⟨Or.inr (Or.inr (Or.inr ⟨hv, fun ⟨r1, r2, r3⟩ => ?_⟩)), Or.inr (Or.inr (Or.inr ⟨yl, es, hv, ?_⟩))⟩
        · obtain ⟨j, hj, e⟩ := nI_of r1
          have h7 := key j hj e r2
          subst h7
          rw [e] at r3
          exact ht ⟨(nI_ltI (b := 400) hj (by decide)).mp r3, e⟩
        · by_cases h4 : i1 = 400
          · exact Or.inr h4
          · refine Or.inl (fun ⟨r1, r2⟩ => ?_)
            obtain ⟨j, hj, e⟩ := nI_of r1
            have h7 := key j hj e r2
            subst h7
            by_cases h6 : j < 400
            · exact ht ⟨h6, e⟩
            · exact h4 (by rw [e, show j = 400 by omega]; rfl)
  · exact ⟨Or.inr (Or.inr (Or.inl hv)), Or.inr (Or.inr (Or.inl hv))⟩
set_option maxHeartbeats 1000000 in
theorem v_cut {px : Nat → Int32} {vz : Int32} {vw : Int32} {vh : Int32} {pxc : Nat → Int32} {mdc : Nat → Int32} {vzc : Int32} {vwc : Int32} {vhc : Int32} {vkc : Int32} {pxr : Nat → Int32} {mdr : Nat → Int32} {vzr : Int32} {vwr : Int32} {vhr : Int32} {vkr : Int32} {yt : Nat → Int32} {yl : Nat} {ibc : Int32} {ilc : Int32} {igl : Int32} {ibk : Int32} {ifa : Int32} {ibd : Int32} {wd : Nat → Int32} {hg : Nat → Int32} {pix : Nat → Int32} {str : Nat → Int32} {mds : Nat → Int32} {thr : Nat → Int32} {isz : Int32} {ibl : Int32} {ile : Int32} {igr : Int32} {mbk : Int32} {ist : Int32} {ibr : Int32} {i1 : Int32} (hI : INV px vz vw vh pxc mdc vzc vwc vhc vkc pxr mdr vzr vwr vhr vkr yt yl ibc ilc igl ibk ifa ibd wd hg pix str mds thr isz ibl ile igr mbk ist ibr) : kx_cut yl i1 ∧ km_cut isz i1 := by
  unfold kx_cut km_cut
  have hI0 := hI
  obtain ⟨⟨z0, t0, ⟨cw0, ch0, hcw0, hch0, ew, eh, mw, mh⟩, hpx⟩, A1, A2, B1, B2, ⟨es, hyl, hyt⟩, ⟨q1, q2, q3, q4, q5⟩, hPX⟩ := hI0
  by_cases hk : ∃ k : Nat, k ≤ yl ∧ i1 = nI k
  · obtain ⟨k, h1, h2⟩ := hk
    exact ⟨Or.inl ⟨k, h2, hyl, h1⟩, Or.inl ⟨yl, k, h2, es, hyl, h1⟩⟩
  · have key : (¬ i1 < 0 ∧ ¬ nI yl < i1) → False := fun ⟨r1, r2⟩ => by
      obtain ⟨j, hj, rfl⟩ := nI_of r1
      exact hk ⟨j, Nat.not_lt.mp (fun q => r2 ((nI_ltI (by omega) hj).mpr q)), rfl⟩
    exact ⟨Or.inr key, Or.inr ⟨yl, es, key⟩⟩
set_option maxHeartbeats 1000000 in
theorem v_get {px : Nat → Int32} {vz : Int32} {vw : Int32} {vh : Int32} {pxc : Nat → Int32} {mdc : Nat → Int32} {vzc : Int32} {vwc : Int32} {vhc : Int32} {vkc : Int32} {pxr : Nat → Int32} {mdr : Nat → Int32} {vzr : Int32} {vwr : Int32} {vhr : Int32} {vkr : Int32} {yt : Nat → Int32} {yl : Nat} {ibc : Int32} {ilc : Int32} {igl : Int32} {ibk : Int32} {ifa : Int32} {ibd : Int32} {wd : Nat → Int32} {hg : Nat → Int32} {pix : Nat → Int32} {str : Nat → Int32} {mds : Nat → Int32} {thr : Nat → Int32} {isz : Int32} {ibl : Int32} {ile : Int32} {igr : Int32} {mbk : Int32} {ist : Int32} {ibr : Int32} {i1 : Int32} {i2 : Int32} {i3 : Int32} (hI : INV px vz vw vh pxc mdc vzc vwc vhc vkc pxr mdr vzr vwr vhr vkr yt yl ibc ilc igl ibk ifa ibd wd hg pix str mds thr isz ibl ile igr mbk ist ibr) : kx_get vz vw vh vzc vwc vhc vzr vwr vhr i1 i2 i3 ∧ km_get wd hg thr i1 i2 i3 := by
  unfold kx_get km_get
  have hI0 := hI
  obtain ⟨⟨z0, t0, ⟨cw0, ch0, hcw0, hch0, ew, eh, mw, mh⟩, hpx⟩, A1, A2, B1, B2, ⟨es, hyl, hyt⟩, ⟨q1, q2, q3, q4, q5⟩, hPX⟩ := hI0
  by_cases ho : ¬ i1 < 0 ∧ ¬ 2 < i1
  · obtain ⟨o, h1, h2⟩ := nI_of2 (x := i1) (M := 2) (n := 2) rfl ho.1 (Int32.not_lt.mp ho.2)
    rcases (show o = 0 ∨ o = 1 ∨ o = 2 by omega) with rfl | rfl | rfl
    · rcases (hI.1.pic : PicI px vz vw vh pix wd hg thr 0) with ⟨hz, ht⟩ | ⟨hz, ht, cw, ch, g1, g2, g3, g4, g5, g6, g7⟩
      · exact ⟨Or.inr (Or.inr (Or.inr (Or.inr (Or.inl (⟨h2, hz⟩))))), Or.inr (Or.inr (Or.inl ⟨0, h2, by decide, ht⟩))⟩
      · by_cases hin : ∃ x y : Nat, x < 4 * cw ∧ y < 4 * ch ∧ i2 = nI x ∧ i3 = nI y
        · obtain ⟨x, y, r1, r2, r3, r4⟩ := hin
          exact ⟨Or.inl (⟨x, y, h2, r3, r4, hz, by omega, by omega, by rw [g3]; exact nI_lt r1 (by omega), by rw [g4]; exact nI_lt r2 (by omega)⟩), Or.inl ⟨0, x, y, 4 * cw, 4 * ch, h2, r3, r4, by decide, ht, g5, g6, r1, r2, by omega, by omega⟩⟩
        · exact ⟨Or.inr (Or.inr (Or.inr (Or.inr (Or.inr (Or.inl (⟨h2, hz, fun q => hin (has_nI g1.2 g2.2 (by rw [← g3, ← g4]; exact q))⟩)))))), Or.inr (Or.inr (Or.inr ⟨0, h2, by decide, ht, fun q => hin (in2_nI g1.2 g2.2 g5 g6 q)⟩))⟩
    · rcases (hI.2.1 : PicI pxc vzc vwc vhc pix wd hg thr 1) with ⟨hz, ht⟩ | ⟨hz, ht, cw, ch, g1, g2, g3, g4, g5, g6, g7⟩
      · exact ⟨Or.inr (Or.inr (Or.inr (Or.inr (Or.inr (Or.inr (Or.inl (⟨h2, hz⟩))))))), Or.inr (Or.inr (Or.inl ⟨1, h2, by decide, ht⟩))⟩
      · by_cases hin : ∃ x y : Nat, x < 4 * cw ∧ y < 4 * ch ∧ i2 = nI x ∧ i3 = nI y
        · obtain ⟨x, y, r1, r2, r3, r4⟩ := hin
          exact ⟨Or.inr (Or.inl (⟨x, y, h2, r3, r4, hz, by omega, by omega, by rw [g3]; exact nI_lt r1 (by omega), by rw [g4]; exact nI_lt r2 (by omega)⟩)), Or.inl ⟨1, x, y, 4 * cw, 4 * ch, h2, r3, r4, by decide, ht, g5, g6, r1, r2, by omega, by omega⟩⟩
        · exact ⟨Or.inr (Or.inr (Or.inr (Or.inr (Or.inr (Or.inr (Or.inr (Or.inl (⟨h2, hz, fun q => hin (has_nI g1.2 g2.2 (by rw [← g3, ← g4]; exact q))⟩)))))))), Or.inr (Or.inr (Or.inr ⟨1, h2, by decide, ht, fun q => hin (in2_nI g1.2 g2.2 g5 g6 q)⟩))⟩
    · rcases (hI.2.2.1 : PicI pxr vzr vwr vhr pix wd hg thr 2) with ⟨hz, ht⟩ | ⟨hz, ht, cw, ch, g1, g2, g3, g4, g5, g6, g7⟩
      · exact ⟨Or.inr (Or.inr (Or.inr (Or.inr (Or.inr (Or.inr (Or.inr (Or.inr (Or.inl (⟨h2, hz⟩))))))))), Or.inr (Or.inr (Or.inl ⟨2, h2, by decide, ht⟩))⟩
      · by_cases hin : ∃ x y : Nat, x < 4 * cw ∧ y < 4 * ch ∧ i2 = nI x ∧ i3 = nI y
        · obtain ⟨x, y, r1, r2, r3, r4⟩ := hin
          exact ⟨Or.inr (Or.inr (Or.inl (⟨x, y, h2, r3, r4, hz, by omega, by omega, by rw [g3]; exact nI_lt r1 (by omega), by rw [g4]; exact nI_lt r2 (by omega)⟩))), Or.inl ⟨2, x, y, 4 * cw, 4 * ch, h2, r3, r4, by decide, ht, g5, g6, r1, r2, by omega, by omega⟩⟩
        · exact ⟨Or.inr (Or.inr (Or.inr (Or.inr (Or.inr (Or.inr (Or.inr (Or.inr (Or.inr (⟨h2, hz, fun q => hin (has_nI g1.2 g2.2 (by rw [← g3, ← g4]; exact q))⟩))))))))), Or.inr (Or.inr (Or.inr ⟨2, h2, by decide, ht, fun q => hin (in2_nI g1.2 g2.2 g5 g6 q)⟩))⟩
  · exact ⟨Or.inr (Or.inr (Or.inr (Or.inl (ho)))), Or.inr (Or.inl ho)⟩
set_option maxHeartbeats 1000000 in
theorem v_apart {px : Nat → Int32} {vz : Int32} {vw : Int32} {vh : Int32} {pxc : Nat → Int32} {mdc : Nat → Int32} {vzc : Int32} {vwc : Int32} {vhc : Int32} {vkc : Int32} {pxr : Nat → Int32} {mdr : Nat → Int32} {vzr : Int32} {vwr : Int32} {vhr : Int32} {vkr : Int32} {yt : Nat → Int32} {yl : Nat} {ibc : Int32} {ilc : Int32} {igl : Int32} {ibk : Int32} {ifa : Int32} {ibd : Int32} {wd : Nat → Int32} {hg : Nat → Int32} {pix : Nat → Int32} {str : Nat → Int32} {mds : Nat → Int32} {thr : Nat → Int32} {isz : Int32} {ibl : Int32} {ile : Int32} {igr : Int32} {mbk : Int32} {ist : Int32} {ibr : Int32} {i1 : Int32} {i2 : Int32} (hI : INV px vz vw vh pxc mdc vzc vwc vhc vkc pxr mdr vzr vwr vhr vkr yt yl ibc ilc igl ibk ifa ibd wd hg pix str mds thr isz ibl ile igr mbk ist ibr) : kx_apart vz vw vh vzc vwc vhc vzr vwr vhr i1 i2 ∧ km_apart wd hg pix thr i1 i2 := by
  unfold kx_apart km_apart
  have hI0 := hI
  obtain ⟨⟨z0, t0, ⟨cw0, ch0, hcw0, hch0, ew, eh, mw, mh⟩, hpx⟩, A1, A2, B1, B2, ⟨es, hyl, hyt⟩, ⟨q1, q2, q3, q4, q5⟩, hPX⟩ := hI0
  by_cases ho : (¬ i1 < 0 ∧ ¬ 2 < i1) ∧ (¬ i2 < 0 ∧ ¬ 2 < i2)
  · obtain ⟨o1, h1, e1⟩ := nI_of2 (x := i1) (M := 2) (n := 2) rfl ho.1.1 (Int32.not_lt.mp ho.1.2)
    obtain ⟨o2, h2, e2⟩ := nI_of2 (x := i2) (M := 2) (n := 2) rfl ho.2.1 (Int32.not_lt.mp ho.2.2)
    have hp1 : ∀ o, o < 4 → PR (oP pix o) := fun o h => PX_oP hPX h
    rcases (show o1 = 0 ∨ o1 = 1 ∨ o1 = 2 by omega) with rfl | rfl | rfl <;> rcases (show o2 = 0 ∨ o2 = 1 ∨ o2 = 2 by omega) with rfl | rfl | rfl
    · rcases (hI.1.pic : PicI px vz vw vh pix wd hg thr 0) with ⟨hz, ht⟩ | ⟨hz, ht, cw, ch, g1, g2, g3, g4, g5, g6, g7⟩
      · exact ⟨Or.inr (Or.inr (Or.inr (Or.inr (Or.inr (Or.inr (Or.inr (Or.inr (Or.inr (Or.inr (Or.inl (⟨e1, e2, fun q => q.1 hz⟩))))))))))), Or.inr (Or.inr (Or.inl ⟨0, 0, e1, e2, by decide, by decide, Or.inl ht⟩))⟩
      rcases (hI.1.pic : PicI px vz vw vh pix wd hg thr 0) with ⟨kz, kt⟩ | ⟨kz, kt, cx, cy, f1, f2, f3, f4, f5, f6, f7⟩
      · exact ⟨Or.inr (Or.inr (Or.inr (Or.inr (Or.inr (Or.inr (Or.inr (Or.inr (Or.inr (Or.inr (Or.inl (⟨e1, e2, fun q => q.2 kz⟩))))))))))), Or.inr (Or.inr (Or.inl ⟨0, 0, e1, e2, by decide, by decide, Or.inr kt⟩))⟩
      exact ⟨Or.inl (⟨4 * cw, 4 * ch, e1, e2, g3, g4, hz, kz, by omega, by omega⟩), Or.inl ⟨0, 0, 4 * cw, 4 * ch, e1, e2, by decide, by decide, ht, kt, rfl, rfl, g5, g6, by omega, by omega, hp1 _ (by decide), hp1 _ (by decide)⟩⟩
    · rcases (hI.1.pic : PicI px vz vw vh pix wd hg thr 0) with ⟨hz, ht⟩ | ⟨hz, ht, cw, ch, g1, g2, g3, g4, g5, g6, g7⟩
      · exact ⟨Or.inr (Or.inr (Or.inr (Or.inr (Or.inr (Or.inr (Or.inr (Or.inr (Or.inr (Or.inr (Or.inr (Or.inl (⟨e1, e2, fun q => q.1 hz⟩)))))))))))), Or.inr (Or.inr (Or.inl ⟨0, 1, e1, e2, by decide, by decide, Or.inl ht⟩))⟩
      rcases (hI.2.1 : PicI pxc vzc vwc vhc pix wd hg thr 1) with ⟨kz, kt⟩ | ⟨kz, kt, cx, cy, f1, f2, f3, f4, f5, f6, f7⟩
      · exact ⟨Or.inr (Or.inr (Or.inr (Or.inr (Or.inr (Or.inr (Or.inr (Or.inr (Or.inr (Or.inr (Or.inr (Or.inl (⟨e1, e2, fun q => q.2 kz⟩)))))))))))), Or.inr (Or.inr (Or.inl ⟨0, 1, e1, e2, by decide, by decide, Or.inr kt⟩))⟩
      by_cases hs : vw = vwc ∧ vh = vhc
      · have r1 : vwc = nI (4 * cw) := hs.1.symm.trans g3
        have r2 : vhc = nI (4 * ch) := hs.2.symm.trans g4
        exact ⟨Or.inr (Or.inl (⟨4 * cw, 4 * ch, e1, e2, g3, g4, r1, r2, hz, kz, by omega, by omega⟩)), Or.inl ⟨0, 1, 4 * cw, 4 * ch, e1, e2, by decide, by decide, ht, kt, g5.trans (r1.symm.trans (f3.trans f5.symm)), g6.trans (r2.symm.trans (f4.trans f6.symm)), g5, g6, by omega, by omega, hp1 _ (by decide), hp1 _ (by decide)⟩⟩
      · exact ⟨Or.inr (Or.inr (Or.inr (Or.inr (Or.inr (Or.inr (Or.inr (Or.inr (Or.inr (Or.inr (Or.inr (Or.inr (Or.inl (⟨e1, e2, hz, kz, hs⟩))))))))))))), Or.inr (Or.inr (Or.inr ⟨0, 1, e1, e2, by decide, by decide, ht, kt, fun q => hs ⟨g3.trans (g5.symm.trans (q.1.trans (f5.trans f3.symm))), g4.trans (g6.symm.trans (q.2.trans (f6.trans f4.symm)))⟩⟩))⟩
    · rcases (hI.1.pic : PicI px vz vw vh pix wd hg thr 0) with ⟨hz, ht⟩ | ⟨hz, ht, cw, ch, g1, g2, g3, g4, g5, g6, g7⟩
      · exact ⟨Or.inr (Or.inr (Or.inr (Or.inr (Or.inr (Or.inr (Or.inr (Or.inr (Or.inr (Or.inr (Or.inr (Or.inr (Or.inr (Or.inl (⟨e1, e2, fun q => q.1 hz⟩)))))))))))))), Or.inr (Or.inr (Or.inl ⟨0, 2, e1, e2, by decide, by decide, Or.inl ht⟩))⟩
      rcases (hI.2.2.1 : PicI pxr vzr vwr vhr pix wd hg thr 2) with ⟨kz, kt⟩ | ⟨kz, kt, cx, cy, f1, f2, f3, f4, f5, f6, f7⟩
      · exact ⟨Or.inr (Or.inr (Or.inr (Or.inr (Or.inr (Or.inr (Or.inr (Or.inr (Or.inr (Or.inr (Or.inr (Or.inr (Or.inr (Or.inl (⟨e1, e2, fun q => q.2 kz⟩)))))))))))))), Or.inr (Or.inr (Or.inl ⟨0, 2, e1, e2, by decide, by decide, Or.inr kt⟩))⟩
      by_cases hs : vw = vwr ∧ vh = vhr
      · have r1 : vwr = nI (4 * cw) := hs.1.symm.trans g3
        have r2 : vhr = nI (4 * ch) := hs.2.symm.trans g4
        exact ⟨Or.inr (Or.inr (Or.inl (⟨4 * cw, 4 * ch, e1, e2, g3, g4, r1, r2, hz, kz, by omega, by omega⟩))), Or.inl ⟨0, 2, 4 * cw, 4 * ch, e1, e2, by decide, by decide, ht, kt, g5.trans (r1.symm.trans (f3.trans f5.symm)), g6.trans (r2.symm.trans (f4.trans f6.symm)), g5, g6, by omega, by omega, hp1 _ (by decide), hp1 _ (by decide)⟩⟩
      · exact ⟨Or.inr (Or.inr (Or.inr (Or.inr (Or.inr (Or.inr (Or.inr (Or.inr (Or.inr (Or.inr (Or.inr (Or.inr (Or.inr (Or.inr (Or.inl (⟨e1, e2, hz, kz, hs⟩))))))))))))))), Or.inr (Or.inr (Or.inr ⟨0, 2, e1, e2, by decide, by decide, ht, kt, fun q => hs ⟨g3.trans (g5.symm.trans (q.1.trans (f5.trans f3.symm))), g4.trans (g6.symm.trans (q.2.trans (f6.trans f4.symm)))⟩⟩))⟩
    · rcases (hI.2.1 : PicI pxc vzc vwc vhc pix wd hg thr 1) with ⟨hz, ht⟩ | ⟨hz, ht, cw, ch, g1, g2, g3, g4, g5, g6, g7⟩
      · exact ⟨Or.inr (Or.inr (Or.inr (Or.inr (Or.inr (Or.inr (Or.inr (Or.inr (Or.inr (Or.inr (Or.inr (Or.inr (Or.inr (Or.inr (Or.inr (Or.inl (⟨e1, e2, fun q => q.1 hz⟩)))))))))))))))), Or.inr (Or.inr (Or.inl ⟨1, 0, e1, e2, by decide, by decide, Or.inl ht⟩))⟩
      rcases (hI.1.pic : PicI px vz vw vh pix wd hg thr 0) with ⟨kz, kt⟩ | ⟨kz, kt, cx, cy, f1, f2, f3, f4, f5, f6, f7⟩
      · exact ⟨Or.inr (Or.inr (Or.inr (Or.inr (Or.inr (Or.inr (Or.inr (Or.inr (Or.inr (Or.inr (Or.inr (Or.inr (Or.inr (Or.inr (Or.inr (Or.inl (⟨e1, e2, fun q => q.2 kz⟩)))))))))))))))), Or.inr (Or.inr (Or.inl ⟨1, 0, e1, e2, by decide, by decide, Or.inr kt⟩))⟩
      by_cases hs : vwc = vw ∧ vhc = vh
      · have r1 : vw = nI (4 * cw) := hs.1.symm.trans g3
        have r2 : vh = nI (4 * ch) := hs.2.symm.trans g4
        exact ⟨Or.inr (Or.inr (Or.inr (Or.inl (⟨4 * cw, 4 * ch, e1, e2, g3, g4, r1, r2, hz, kz, by omega, by omega⟩)))), Or.inl ⟨1, 0, 4 * cw, 4 * ch, e1, e2, by decide, by decide, ht, kt, g5.trans (r1.symm.trans (f3.trans f5.symm)), g6.trans (r2.symm.trans (f4.trans f6.symm)), g5, g6, by omega, by omega, hp1 _ (by decide), hp1 _ (by decide)⟩⟩
      · exact ⟨Or.inr (Or.inr (Or.inr (Or.inr (Or.inr (Or.inr (Or.inr (Or.inr (Or.inr (Or.inr (Or.inr (Or.inr (Or.inr (Or.inr (Or.inr (Or.inr (Or.inl (⟨e1, e2, hz, kz, hs⟩))))))))))))))))), Or.inr (Or.inr (Or.inr ⟨1, 0, e1, e2, by decide, by decide, ht, kt, fun q => hs ⟨g3.trans (g5.symm.trans (q.1.trans (f5.trans f3.symm))), g4.trans (g6.symm.trans (q.2.trans (f6.trans f4.symm)))⟩⟩))⟩
    · rcases (hI.2.1 : PicI pxc vzc vwc vhc pix wd hg thr 1) with ⟨hz, ht⟩ | ⟨hz, ht, cw, ch, g1, g2, g3, g4, g5, g6, g7⟩
      · exact ⟨Or.inr (Or.inr (Or.inr (Or.inr (Or.inr (Or.inr (Or.inr (Or.inr (Or.inr (Or.inr (Or.inr (Or.inr (Or.inr (Or.inr (Or.inr (Or.inr (Or.inr (Or.inl (⟨e1, e2, fun q => q.1 hz⟩)))))))))))))))))), Or.inr (Or.inr (Or.inl ⟨1, 1, e1, e2, by decide, by decide, Or.inl ht⟩))⟩
      rcases (hI.2.1 : PicI pxc vzc vwc vhc pix wd hg thr 1) with ⟨kz, kt⟩ | ⟨kz, kt, cx, cy, f1, f2, f3, f4, f5, f6, f7⟩
      · exact ⟨Or.inr (Or.inr (Or.inr (Or.inr (Or.inr (Or.inr (Or.inr (Or.inr (Or.inr (Or.inr (Or.inr (Or.inr (Or.inr (Or.inr (Or.inr (Or.inr (Or.inr (Or.inl (⟨e1, e2, fun q => q.2 kz⟩)))))))))))))))))), Or.inr (Or.inr (Or.inl ⟨1, 1, e1, e2, by decide, by decide, Or.inr kt⟩))⟩
      exact ⟨Or.inr (Or.inr (Or.inr (Or.inr (Or.inl (⟨4 * cw, 4 * ch, e1, e2, g3, g4, hz, kz, by omega, by omega⟩))))), Or.inl ⟨1, 1, 4 * cw, 4 * ch, e1, e2, by decide, by decide, ht, kt, rfl, rfl, g5, g6, by omega, by omega, hp1 _ (by decide), hp1 _ (by decide)⟩⟩
    · rcases (hI.2.1 : PicI pxc vzc vwc vhc pix wd hg thr 1) with ⟨hz, ht⟩ | ⟨hz, ht, cw, ch, g1, g2, g3, g4, g5, g6, g7⟩
      · exact ⟨Or.inr (Or.inr (Or.inr (Or.inr (Or.inr (Or.inr (Or.inr (Or.inr (Or.inr (Or.inr (Or.inr (Or.inr (Or.inr (Or.inr (Or.inr (Or.inr (Or.inr (Or.inr (Or.inl (⟨e1, e2, fun q => q.1 hz⟩))))))))))))))))))), Or.inr (Or.inr (Or.inl ⟨1, 2, e1, e2, by decide, by decide, Or.inl ht⟩))⟩
      rcases (hI.2.2.1 : PicI pxr vzr vwr vhr pix wd hg thr 2) with ⟨kz, kt⟩ | ⟨kz, kt, cx, cy, f1, f2, f3, f4, f5, f6, f7⟩
      · exact ⟨Or.inr (Or.inr (Or.inr (Or.inr (Or.inr (Or.inr (Or.inr (Or.inr (Or.inr (Or.inr (Or.inr (Or.inr (Or.inr (Or.inr (Or.inr (Or.inr (Or.inr (Or.inr (Or.inl (⟨e1, e2, fun q => q.2 kz⟩))))))))))))))))))), Or.inr (Or.inr (Or.inl ⟨1, 2, e1, e2, by decide, by decide, Or.inr kt⟩))⟩
      by_cases hs : vwc = vwr ∧ vhc = vhr
      · have r1 : vwr = nI (4 * cw) := hs.1.symm.trans g3
        have r2 : vhr = nI (4 * ch) := hs.2.symm.trans g4
        exact ⟨Or.inr (Or.inr (Or.inr (Or.inr (Or.inr (Or.inl (⟨4 * cw, 4 * ch, e1, e2, g3, g4, r1, r2, hz, kz, by omega, by omega⟩)))))), Or.inl ⟨1, 2, 4 * cw, 4 * ch, e1, e2, by decide, by decide, ht, kt, g5.trans (r1.symm.trans (f3.trans f5.symm)), g6.trans (r2.symm.trans (f4.trans f6.symm)), g5, g6, by omega, by omega, hp1 _ (by decide), hp1 _ (by decide)⟩⟩
      · exact ⟨Or.inr (Or.inr (Or.inr (Or.inr (Or.inr (Or.inr (Or.inr (Or.inr (Or.inr (Or.inr (Or.inr (Or.inr (Or.inr (Or.inr (Or.inr (Or.inr (Or.inr (Or.inr (Or.inr (Or.inl (⟨e1, e2, hz, kz, hs⟩)))))))))))))))))))), Or.inr (Or.inr (Or.inr ⟨1, 2, e1, e2, by decide, by decide, ht, kt, fun q => hs ⟨g3.trans (g5.symm.trans (q.1.trans (f5.trans f3.symm))), g4.trans (g6.symm.trans (q.2.trans (f6.trans f4.symm)))⟩⟩))⟩
    · rcases (hI.2.2.1 : PicI pxr vzr vwr vhr pix wd hg thr 2) with ⟨hz, ht⟩ | ⟨hz, ht, cw, ch, g1, g2, g3, g4, g5, g6, g7⟩
      · exact ⟨Or.inr (Or.inr (Or.inr (Or.inr (Or.inr (Or.inr (Or.inr (Or.inr (Or.inr (Or.inr (Or.inr (Or.inr (Or.inr (Or.inr (Or.inr (Or.inr (Or.inr (Or.inr (Or.inr (Or.inr (Or.inl (⟨e1, e2, fun q => q.1 hz⟩))))))))))))))))))))), Or.inr (Or.inr (Or.inl ⟨2, 0, e1, e2, by decide, by decide, Or.inl ht⟩))⟩
      rcases (hI.1.pic : PicI px vz vw vh pix wd hg thr 0) with ⟨kz, kt⟩ | ⟨kz, kt, cx, cy, f1, f2, f3, f4, f5, f6, f7⟩
      · exact ⟨Or.inr (Or.inr (Or.inr (Or.inr (Or.inr (Or.inr (Or.inr (Or.inr (Or.inr (Or.inr (Or.inr (Or.inr (Or.inr (Or.inr (Or.inr (Or.inr (Or.inr (Or.inr (Or.inr (Or.inr (Or.inl (⟨e1, e2, fun q => q.2 kz⟩))))))))))))))))))))), Or.inr (Or.inr (Or.inl ⟨2, 0, e1, e2, by decide, by decide, Or.inr kt⟩))⟩
      by_cases hs : vwr = vw ∧ vhr = vh
      · have r1 : vw = nI (4 * cw) := hs.1.symm.trans g3
        have r2 : vh = nI (4 * ch) := hs.2.symm.trans g4
        exact ⟨Or.inr (Or.inr (Or.inr (Or.inr (Or.inr (Or.inr (Or.inl (⟨4 * cw, 4 * ch, e1, e2, g3, g4, r1, r2, hz, kz, by omega, by omega⟩))))))), Or.inl ⟨2, 0, 4 * cw, 4 * ch, e1, e2, by decide, by decide, ht, kt, g5.trans (r1.symm.trans (f3.trans f5.symm)), g6.trans (r2.symm.trans (f4.trans f6.symm)), g5, g6, by omega, by omega, hp1 _ (by decide), hp1 _ (by decide)⟩⟩
      · exact ⟨Or.inr (Or.inr (Or.inr (Or.inr (Or.inr (Or.inr (Or.inr (Or.inr (Or.inr (Or.inr (Or.inr (Or.inr (Or.inr (Or.inr (Or.inr (Or.inr (Or.inr (Or.inr (Or.inr (Or.inr (Or.inr (Or.inl (⟨e1, e2, hz, kz, hs⟩)))))))))))))))))))))), Or.inr (Or.inr (Or.inr ⟨2, 0, e1, e2, by decide, by decide, ht, kt, fun q => hs ⟨g3.trans (g5.symm.trans (q.1.trans (f5.trans f3.symm))), g4.trans (g6.symm.trans (q.2.trans (f6.trans f4.symm)))⟩⟩))⟩
    · rcases (hI.2.2.1 : PicI pxr vzr vwr vhr pix wd hg thr 2) with ⟨hz, ht⟩ | ⟨hz, ht, cw, ch, g1, g2, g3, g4, g5, g6, g7⟩
      · exact ⟨Or.inr (Or.inr (Or.inr (Or.inr (Or.inr (Or.inr (Or.inr (Or.inr (Or.inr (Or.inr (Or.inr (Or.inr (Or.inr (Or.inr (Or.inr (Or.inr (Or.inr (Or.inr (Or.inr (Or.inr (Or.inr (Or.inr (Or.inl (⟨e1, e2, fun q => q.1 hz⟩))))))))))))))))))))))), Or.inr (Or.inr (Or.inl ⟨2, 1, e1, e2, by decide, by decide, Or.inl ht⟩))⟩
      rcases (hI.2.1 : PicI pxc vzc vwc vhc pix wd hg thr 1) with ⟨kz, kt⟩ | ⟨kz, kt, cx, cy, f1, f2, f3, f4, f5, f6, f7⟩
      · exact ⟨Or.inr (Or.inr (Or.inr (Or.inr (Or.inr (Or.inr (Or.inr (Or.inr (Or.inr (Or.inr (Or.inr (Or.inr (Or.inr (Or.inr (Or.inr (Or.inr (Or.inr (Or.inr (Or.inr (Or.inr (Or.inr (Or.inr (Or.inl (⟨e1, e2, fun q => q.2 kz⟩))))))))))))))))))))))), Or.inr (Or.inr (Or.inl ⟨2, 1, e1, e2, by decide, by decide, Or.inr kt⟩))⟩
      by_cases hs : vwr = vwc ∧ vhr = vhc
      · have r1 : vwc = nI (4 * cw) := hs.1.symm.trans g3
        have r2 : vhc = nI (4 * ch) := hs.2.symm.trans g4
        exact ⟨Or.inr (Or.inr (Or.inr (Or.inr (Or.inr (Or.inr (Or.inr (Or.inl (⟨4 * cw, 4 * ch, e1, e2, g3, g4, r1, r2, hz, kz, by omega, by omega⟩)))))))), Or.inl ⟨2, 1, 4 * cw, 4 * ch, e1, e2, by decide, by decide, ht, kt, g5.trans (r1.symm.trans (f3.trans f5.symm)), g6.trans (r2.symm.trans (f4.trans f6.symm)), g5, g6, by omega, by omega, hp1 _ (by decide), hp1 _ (by decide)⟩⟩
      · exact ⟨Or.inr (Or.inr (Or.inr (Or.inr (Or.inr (Or.inr (Or.inr (Or.inr (Or.inr (Or.inr (Or.inr (Or.inr (Or.inr (Or.inr (Or.inr (Or.inr (Or.inr (Or.inr (Or.inr (Or.inr (Or.inr (Or.inr (Or.inr (Or.inl (⟨e1, e2, hz, kz, hs⟩)))))))))))))))))))))))), Or.inr (Or.inr (Or.inr ⟨2, 1, e1, e2, by decide, by decide, ht, kt, fun q => hs ⟨g3.trans (g5.symm.trans (q.1.trans (f5.trans f3.symm))), g4.trans (g6.symm.trans (q.2.trans (f6.trans f4.symm)))⟩⟩))⟩
    · rcases (hI.2.2.1 : PicI pxr vzr vwr vhr pix wd hg thr 2) with ⟨hz, ht⟩ | ⟨hz, ht, cw, ch, g1, g2, g3, g4, g5, g6, g7⟩
      · exact ⟨Or.inr (Or.inr (Or.inr (Or.inr (Or.inr (Or.inr (Or.inr (Or.inr (Or.inr (Or.inr (Or.inr (Or.inr (Or.inr (Or.inr (Or.inr (Or.inr (Or.inr (Or.inr (Or.inr (Or.inr (Or.inr (Or.inr (Or.inr (Or.inr (⟨e1, e2, fun q => q.1 hz⟩)))))))))))))))))))))))), Or.inr (Or.inr (Or.inl ⟨2, 2, e1, e2, by decide, by decide, Or.inl ht⟩))⟩
      rcases (hI.2.2.1 : PicI pxr vzr vwr vhr pix wd hg thr 2) with ⟨kz, kt⟩ | ⟨kz, kt, cx, cy, f1, f2, f3, f4, f5, f6, f7⟩
      · exact ⟨Or.inr (Or.inr (Or.inr (Or.inr (Or.inr (Or.inr (Or.inr (Or.inr (Or.inr (Or.inr (Or.inr (Or.inr (Or.inr (Or.inr (Or.inr (Or.inr (Or.inr (Or.inr (Or.inr (Or.inr (Or.inr (Or.inr (Or.inr (Or.inr (⟨e1, e2, fun q => q.2 kz⟩)))))))))))))))))))))))), Or.inr (Or.inr (Or.inl ⟨2, 2, e1, e2, by decide, by decide, Or.inr kt⟩))⟩
      exact ⟨Or.inr (Or.inr (Or.inr (Or.inr (Or.inr (Or.inr (Or.inr (Or.inr (Or.inl (⟨4 * cw, 4 * ch, e1, e2, g3, g4, hz, kz, by omega, by omega⟩))))))))), Or.inl ⟨2, 2, 4 * cw, 4 * ch, e1, e2, by decide, by decide, ht, kt, rfl, rfl, g5, g6, by omega, by omega, hp1 _ (by decide), hp1 _ (by decide)⟩⟩
  · exact ⟨Or.inr (Or.inr (Or.inr (Or.inr (Or.inr (Or.inr (Or.inr (Or.inr (Or.inr (Or.inl (ho)))))))))), Or.inr (Or.inl ho)⟩
set_option maxHeartbeats 1000000 in
theorem v_mode {px : Nat → Int32} {vz : Int32} {vw : Int32} {vh : Int32} {pxc : Nat → Int32} {mdc : Nat → Int32} {vzc : Int32} {vwc : Int32} {vhc : Int32} {vkc : Int32} {pxr : Nat → Int32} {mdr : Nat → Int32} {vzr : Int32} {vwr : Int32} {vhr : Int32} {vkr : Int32} {yt : Nat → Int32} {yl : Nat} {ibc : Int32} {ilc : Int32} {igl : Int32} {ibk : Int32} {ifa : Int32} {ibd : Int32} {wd : Nat → Int32} {hg : Nat → Int32} {pix : Nat → Int32} {str : Nat → Int32} {mds : Nat → Int32} {thr : Nat → Int32} {isz : Int32} {ibl : Int32} {ile : Int32} {igr : Int32} {mbk : Int32} {ist : Int32} {ibr : Int32} {i1 : Int32} {i2 : Int32} (hI : INV px vz vw vh pxc mdc vzc vwc vhc vkc pxr mdr vzr vwr vhr vkr yt yl ibc ilc igl ibk ifa ibd wd hg pix str mds thr isz ibl ile igr mbk ist ibr) (hb : i1 = 0 ∨ i1 = 1) : kx_mode vkc vkr i1 i2 ∧ km_mode mbk wd hg thr i1 i2 := by
  unfold kx_mode km_mode
  have hI0 := hI
  obtain ⟨⟨z0, t0, ⟨cw0, ch0, hcw0, hch0, ew, eh, mw, mh⟩, hpx⟩, A1, A2, B1, B2, ⟨es, hyl, hyt⟩, ⟨q1, q2, q3, q4, q5⟩, hPX⟩ := hI0
  obtain ⟨nr, hr1, hr2, hr3, hr4, hr5⟩ := B2
  obtain ⟨nc, hc1, hc2, hc3, hc4⟩ := B1
  rcases hb with hb | hb
  · by_cases hk : ∃ k : Nat, k < nc ∧ i2 = nI k
    · obtain ⟨k, h1, h2⟩ := hk
      refine ⟨Or.inr (Or.inl (⟨nc, k, hb, h2, hc2, h1, hc1⟩)), ?_⟩
      rcases hc4 with ⟨-, h⟩ | ⟨h0, c1, c2, u1, u2, u3, u4, u5⟩
      · omega
      · exact Or.inr (Or.inr (Or.inl ⟨k, c1, c2, hb, h2, h0, u3, u4, u1, u2, by omega⟩))
    · have key : ¬ (¬ i2 < 0 ∧ ¬ vkc ≤ i2 ∧ ¬ 9 ≤ i2) := fun ⟨r1, r2, r3⟩ => by
        obtain ⟨j, hj, e9⟩ := nI_of r1
        exact hk ⟨j, Nat.not_le.mp (fun q => r2 (by rw [hc2, e9]; exact (nI_leI (by omega) hj).mpr q)), e9⟩
      refine ⟨Or.inr (Or.inr (Or.inr (⟨hb, key⟩))), ?_⟩
      rcases hc4 with ⟨h, -⟩ | ⟨h0, c1, c2, u1, u2, u3, u4, u5⟩
      · exact Or.inr (Or.inr (Or.inr (Or.inr ⟨hb, h⟩)))
      · exact Or.inr (Or.inr (Or.inr (Or.inl ⟨c1, c2, hb, h0, u3, u4, u1, u2, fun q => hk (by rw [u5]; exact in_nI (by omega) q)⟩)))
  · by_cases hk : ∃ k : Nat, k < nr ∧ i2 = nI k
    · obtain ⟨k, h1, h2⟩ := hk
      exact ⟨Or.inl (⟨nr, k, hb, h2, hr2, h1, hr1⟩), Or.inl ⟨nr, k, hb, h2, hr4, h1, hr1⟩⟩
    · have key : ¬ (¬ i2 < 0 ∧ ¬ vkr ≤ i2 ∧ ¬ 9 ≤ i2) := fun ⟨r1, r2, r3⟩ => by
        obtain ⟨j, hj, e9⟩ := nI_of r1
        exact hk ⟨j, Nat.not_le.mp (fun q => r2 (by rw [hr2, e9]; exact (nI_leI (by omega) hj).mpr q)), e9⟩
      exact ⟨Or.inr (Or.inr (Or.inl (⟨hb, key⟩))), Or.inr (Or.inl ⟨nr, hb, hr4, fun q => hk (in_nI (by omega) q)⟩)⟩
theorem inv_0 {p9 : Nat → Int32} (hz : ∀ j, j < 144 → p9 j = 0) : INV p9 1 4 4 (fun _ => 0) (fun _ => 0) 0 0 0 0 (fun _ => 0) (fun _ => 0) 0 0 0 0 (fun _ => 0) 0 0 0 0 0 0 0 (upd (fun _ => 0) 0 4) (upd (fun _ => 0) 0 4) (fun _ => 0) (fun _ => 0) (fun _ => 0) (upd (fun _ => 0) 0 1) 0 0 0 0 0 0 0 := by
  refine ⟨⟨by decide, by decide, ⟨1, 1, by decide, by decide, rfl, rfl, rfl, rfl⟩, fun j hj => hz j hj⟩, Or.inl ⟨rfl, rfl⟩, Or.inl ⟨rfl, rfl⟩, ⟨0, by decide, rfl, fun j h => absurd h (by omega), Or.inl ⟨rfl, rfl⟩⟩, ⟨0, by decide, rfl, rfl, rfl, fun j h => absurd h (by omega)⟩, ⟨rfl, by decide, fun j h => absurd h (by omega)⟩, ⟨rfl, rfl, rfl, rfl, rfl⟩, fun j _ => ⟨0, by decide, rfl⟩⟩
