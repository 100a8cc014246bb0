set_option maxHeartbeats 8000000 in
set_option maxRecDepth 100000 in
theorem L_loop {p : Program} {l : Launch} {e : Env} {s : State} {m : MethodId} {below : List Frame} {meth : Method} {c : Code} {b L : Nat} {xs : Nat → Int32} {D : va_G} {tys : List (ClassId × FieldType)} {cI cZ cL cD : ClassId} (C : LX p l s m c b L xs D tys cI cZ cL cD) (hL : L ≤ 3072) (hr : meth.sig.returnType = ret) (hlocks : meth.locks = false) {f0 a1 c1 r1 y1 k1 j1 a2 a3 d1 x1 b1 z1 d2 d3 x2 b2 b3 b4 b5 b6 t1 t2 c2 c3 y2 e1 u1 e2 e3 e4 e5 e6 u2 u3 r2 r3 g0 g1 g2 g3 g4 g5 g6 g7 g8 g9 g10 g11 g12 g13 g14 g15 oL oD : Nat} {c0 s0 : Nat} (hc0 : c0 + 512 ≤ 1099) (hs0 : s0 + 3072 ≤ 11620) : ∀ n j : Nat, 513 ≤ j + n → 6 * j ≤ 3072 → LW p l e s m below meth c b D cI cZ cL cD (lw_Z below #[Value.ref b] s) f0 a1 c1 r1 y1 k1 j1 a2 a3 d1 x1 b1 z1 d2 d3 x2 b2 b3 b4 b5 b6 t1 t2 c2 c3 y2 e1 u1 e2 e3 e4 e5 e6 u2 u3 r2 r3 g0 g1 g2 g3 g4 g5 g6 g7 g8 g9 g10 g11 g12 g13 g14 g15 oL oD (6 * j) (c0 + j) (s0 + 6 * j) 28 := by
  intro n
  induction n with
  | zero => intro j h1 h2; omega
  | succ n ih =>
    intro j h1 h2 ibc ilc igl ibk ifa ibd vz vw vh vk px md nz gr vzd vwd vhd vkd pxd mdd nb bt vr vc vcr ab lf fo lv wk vs vn vs2 vn2 vzc vwc vhc vkc pxc mdc yl yp yt boR vrR vcR crR abR lfR foR lvR wkR usR unR us2R un2R vzr vwr vhr vkr pxr mdr isz ithM icoM iclM irwM ibiM ienM itrM ibl ile igr mbk ist ibr wd hg pix str ladM bkM lvM tdM abM lfM mds nmdM suM mnM thr foL foD hI H locs ls hP hD hS hl
    have C0 := C
    obtain ⟨hx, hb, hml, hown, hts, hN, hX, hNC, hK, hcI, hcZ, hcL, hcD, hXs, hbl, hst⟩ := C0
    refine lv_iload hx hb d_Law_law_28 (lv_at hl 0 rfl) ?_
    refine lv_aload_n hx hb d_Law_law_30 rfl (lv_at hl 5 rfl) ?_
    refine va_slen hx hb hXs hbl (Nat.not_le.mpr hbl) hS d_Law_law_31 ?_
    refine lv_bipush (v := 6) hx hb d_Law_law_32 (by decide) ?_
    refine lv_isub hx hb d_Law_law_34 ?_
    refine lv_icmp_gt (tgt := 955) hx hb d_Law_law_35 (by decide) (fun c_35 => ?_) (fun c_35 => ?_)
    · refine lv_iconst (v := 1) hx hb d_Law_law_955 (by decide) ?_
      refine va_forget hS.2.2 ?_
      refine W.widen (k := 1099) (n := 11620) (by omega) (by omega) ?_
      exact lw_ret hx hb hr hlocks d_Law_law_956
    · have hi := lp_le hL h2 c_35
      have kk : LW p l e s m below meth c b D cI cZ cL cD (lw_Z below #[Value.ref b] s) f0 a1 c1 r1 y1 k1 j1 a2 a3 d1 x1 b1 z1 d2 d3 x2 b2 b3 b4 b5 b6 t1 t2 c2 c3 y2 e1 u1 e2 e3 e4 e5 e6 u2 u3 r2 r3 g0 g1 g2 g3 g4 g5 g6 g7 g8 g9 g10 g11 g12 g13 g14 g15 oL oD (6 * j) (c0 + j + 1) (s0 + 6 * j + 6) 949 := by
        intro ibc ilc igl ibk ifa ibd vz vw vh vk px md nz gr vzd vwd vhd vkd pxd mdd nb bt vr vc vcr ab lf fo lv wk vs vn vs2 vn2 vzc vwc vhc vkc pxc mdc yl yp yt boR vrR vcR crR abR lfR foR lvR wkR usR unR us2R un2R vzr vwr vhr vkr pxr mdr isz ithM icoM iclM irwM ibiM ienM itrM ibl ile igr mbk ist ibr wd hg pix str ladM bkM lvM tdM abM lfM mds nmdM suM mnM thr foL foD hI H locs ls hP hD hS hl
        refine lv_iinc (v := nI (6 * (j + 1))) (lv' := [(5, .int (nI (6 * (j + 1)))), (4, .ref oD), (3, .ref oL), (2, .ref g0), (1, .ref f0), (0, .ref b)]) hx hb d_Law_law_949 hl (k := 0) rfl (by show nI (6 * j) + 6 = _; rw [show (6 : Int32) = nI 6 from rfl, nI_add]; exact congrArg nI (by omega)) (by decide) rfl (fun ls hl => ?_)
        refine lv_goto (tgt := 28) hx hb d_Law_law_952 (by decide) ?_
        exact ih (j + 1) (by omega) (by omega) ibc ilc igl ibk ifa ibd vz vw vh vk px md nz gr vzd vwd vhd vkd pxd mdd nb bt vr vc vcr ab lf fo lv wk vs vn vs2 vn2 vzc vwc vhc vkc pxc mdc yl yp yt boR vrR vcR crR abR lfR foR lvR wkR usR unR us2R un2R vzr vwr vhr vkr pxr mdr isz ithM icoM iclM irwM ibiM ienM itrM ibl ile igr mbk ist ibr wd hg pix str ladM bkM lvM tdM abM lfM mds nmdM suM mnM thr foL foD hI H locs ls hP hD hS hl
      refine lv_aload_n hx hb d_Law_law_38 rfl (lv_at hl 5 rfl) ?_
      refine lv_iload hx hb d_Law_law_39 (lv_at hl 0 rfl) ?_
      refine cs_sld (j := 6 * j) hx hb hXs hbl hS rfl (by omega) hL d_Law_law_41 ?_
      refine lv_bipush (v := 15) hx hb d_Law_law_42 (by decide) ?_
      refine lv_iand hx hb d_Law_law_44 ?_
      by_cases s_0 : (xs (6 * j)) &&& 15 = 0
      · refine cs_tin (k := 0) (tgt := 108) hx hb d_Law_law_45 s_0 (by decide) (by decide) rfl (by decide) ?_
        exact L_size C hL hi (by omega) (by omega) kk ibc ilc igl ibk ifa ibd vz vw vh vk px md nz gr vzd vwd vhd vkd pxd mdd nb bt vr vc vcr ab lf fo lv wk vs vn vs2 vn2 vzc vwc vhc vkc pxc mdc yl yp yt boR vrR vcR crR abR lfR foR lvR wkR usR unR us2R un2R vzr vwr vhr vkr pxr mdr isz ithM icoM iclM irwM ibiM ienM itrM ibl ile igr mbk ist ibr wd hg pix str ladM bkM lvM tdM abM lfM mds nmdM suM mnM thr foL foD hI H locs ls hP hD hS hl
      by_cases s_1 : (xs (6 * j)) &&& 15 = 1
      · refine cs_tin (k := 1) (tgt := 176) hx hb d_Law_law_45 s_1 (by decide) (by decide) rfl (by decide) ?_
        exact L_pixel C hL hi (by omega) (by omega) kk ibc ilc igl ibk ifa ibd vz vw vh vk px md nz gr vzd vwd vhd vkd pxd mdd nb bt vr vc vcr ab lf fo lv wk vs vn vs2 vn2 vzc vwc vhc vkc pxc mdc yl yp yt boR vrR vcR crR abR lfR foR lvR wkR usR unR us2R un2R vzr vwr vhr vkr pxr mdr isz ithM icoM iclM irwM ibiM ienM itrM ibl ile igr mbk ist ibr wd hg pix str ladM bkM lvM tdM abM lfM mds nmdM suM mnM thr foL foD hI H locs ls hP hD hS hl
      by_cases s_2 : (xs (6 * j)) &&& 15 = 2
      · refine cs_tin (k := 2) (tgt := 256) hx hb d_Law_law_45 s_2 (by decide) (by decide) rfl (by decide) ?_
        exact L_fill C hL hi (by omega) (by omega) kk ibc ilc igl ibk ifa ibd vz vw vh vk px md nz gr vzd vwd vhd vkd pxd mdd nb bt vr vc vcr ab lf fo lv wk vs vn vs2 vn2 vzc vwc vhc vkc pxc mdc yl yp yt boR vrR vcR crR abR lfR foR lvR wkR usR unR us2R un2R vzr vwr vhr vkr pxr mdr isz ithM icoM iclM irwM ibiM ienM itrM ibl ile igr mbk ist ibr wd hg pix str ladM bkM lvM tdM abM lfM mds nmdM suM mnM thr foL foD hI H locs ls hP hD hS hl
      by_cases s_3 : (xs (6 * j)) &&& 15 = 3
      · refine cs_tin (k := 3) (tgt := 360) hx hb d_Law_law_45 s_3 (by decide) (by decide) rfl (by decide) ?_
        exact L_encode C hL hi (by omega) (by omega) kk ibc ilc igl ibk ifa ibd vz vw vh vk px md nz gr vzd vwd vhd vkd pxd mdd nb bt vr vc vcr ab lf fo lv wk vs vn vs2 vn2 vzc vwc vhc vkc pxc mdc yl yp yt boR vrR vcR crR abR lfR foR lvR wkR usR unR us2R un2R vzr vwr vhr vkr pxr mdr isz ithM icoM iclM irwM ibiM ienM itrM ibl ile igr mbk ist ibr wd hg pix str ladM bkM lvM tdM abM lfM mds nmdM suM mnM thr foL foD hI H locs ls hP hD hS hl
      by_cases s_4 : (xs (6 * j)) &&& 15 = 4
      · refine cs_tin (k := 4) (tgt := 416) hx hb d_Law_law_45 s_4 (by decide) (by decide) rfl (by decide) ?_
        exact L_decode C hL hi (by omega) (by omega) kk ibc ilc igl ibk ifa ibd vz vw vh vk px md nz gr vzd vwd vhd vkd pxd mdd nb bt vr vc vcr ab lf fo lv wk vs vn vs2 vn2 vzc vwc vhc vkc pxc mdc yl yp yt boR vrR vcR crR abR lfR foR lvR wkR usR unR us2R un2R vzr vwr vhr vkr pxr mdr isz ithM icoM iclM irwM ibiM ienM itrM ibl ile igr mbk ist ibr wd hg pix str ladM bkM lvM tdM abM lfM mds nmdM suM mnM thr foL foD hI H locs ls hP hD hS hl
      by_cases s_5 : (xs (6 * j)) &&& 15 = 5
      · refine cs_tin (k := 5) (tgt := 460) hx hb d_Law_law_45 s_5 (by decide) (by decide) rfl (by decide) ?_
        exact L_stream C hL hi (by omega) (by omega) kk ibc ilc igl ibk ifa ibd vz vw vh vk px md nz gr vzd vwd vhd vkd pxd mdd nb bt vr vc vcr ab lf fo lv wk vs vn vs2 vn2 vzc vwc vhc vkc pxc mdc yl yp yt boR vrR vcR crR abR lfR foR lvR wkR usR unR us2R un2R vzr vwr vhr vkr pxr mdr isz ithM icoM iclM irwM ibiM ienM itrM ibl ile igr mbk ist ibr wd hg pix str ladM bkM lvM tdM abM lfM mds nmdM suM mnM thr foL foD hI H locs ls hP hD hS hl
      by_cases s_6 : (xs (6 * j)) &&& 15 = 6
      · refine cs_tin (k := 6) (tgt := 516) hx hb d_Law_law_45 s_6 (by decide) (by decide) rfl (by decide) ?_
        exact L_damage C hL hi (by omega) (by omega) kk ibc ilc igl ibk ifa ibd vz vw vh vk px md nz gr vzd vwd vhd vkd pxd mdd nb bt vr vc vcr ab lf fo lv wk vs vn vs2 vn2 vzc vwc vhc vkc pxc mdc yl yp yt boR vrR vcR crR abR lfR foR lvR wkR usR unR us2R un2R vzr vwr vhr vkr pxr mdr isz ithM icoM iclM irwM ibiM ienM itrM ibl ile igr mbk ist ibr wd hg pix str ladM bkM lvM tdM abM lfM mds nmdM suM mnM thr foL foD hI H locs ls hP hD hS hl
      by_cases s_7 : (xs (6 * j)) &&& 15 = 7
      · refine cs_tin (k := 7) (tgt := 584) hx hb d_Law_law_45 s_7 (by decide) (by decide) rfl (by decide) ?_
        exact L_cut C hL hi (by omega) (by omega) kk ibc ilc igl ibk ifa ibd vz vw vh vk px md nz gr vzd vwd vhd vkd pxd mdd nb bt vr vc vcr ab lf fo lv wk vs vn vs2 vn2 vzc vwc vhc vkc pxc mdc yl yp yt boR vrR vcR crR abR lfR foR lvR wkR usR unR us2R un2R vzr vwr vhr vkr pxr mdr isz ithM icoM iclM irwM ibiM ienM itrM ibl ile igr mbk ist ibr wd hg pix str ladM bkM lvM tdM abM lfM mds nmdM suM mnM thr foL foD hI H locs ls hP hD hS hl
      by_cases s_8 : (xs (6 * j)) &&& 15 = 8
      · refine cs_tin (k := 8) (tgt := 640) hx hb d_Law_law_45 s_8 (by decide) (by decide) rfl (by decide) ?_
        exact L_get C hL hi (by omega) (by omega) kk ibc ilc igl ibk ifa ibd vz vw vh vk px md nz gr vzd vwd vhd vkd pxd mdd nb bt vr vc vcr ab lf fo lv wk vs vn vs2 vn2 vzc vwc vhc vkc pxc mdc yl yp yt boR vrR vcR crR abR lfR foR lvR wkR usR unR us2R un2R vzr vwr vhr vkr pxr mdr isz ithM icoM iclM irwM ibiM ienM itrM ibl ile igr mbk ist ibr wd hg pix str ladM bkM lvM tdM abM lfM mds nmdM suM mnM thr foL foD hI H locs ls hP hD hS hl
      by_cases s_9 : (xs (6 * j)) &&& 15 = 9
      · refine cs_tin (k := 9) (tgt := 720) hx hb d_Law_law_45 s_9 (by decide) (by decide) rfl (by decide) ?_
        exact L_apart C hL hi (by omega) (by omega) kk ibc ilc igl ibk ifa ibd vz vw vh vk px md nz gr vzd vwd vhd vkd pxd mdd nb bt vr vc vcr ab lf fo lv wk vs vn vs2 vn2 vzc vwc vhc vkc pxc mdc yl yp yt boR vrR vcR crR abR lfR foR lvR wkR usR unR us2R un2R vzr vwr vhr vkr pxr mdr isz ithM icoM iclM irwM ibiM ienM itrM ibl ile igr mbk ist ibr wd hg pix str ladM bkM lvM tdM abM lfM mds nmdM suM mnM thr foL foD hI H locs ls hP hD hS hl
      by_cases s_10 : (xs (6 * j)) &&& 15 = 10
      · refine cs_tin (k := 10) (tgt := 809) hx hb d_Law_law_45 s_10 (by decide) (by decide) rfl (by decide) ?_
        exact L_mode C hL hi (by omega) (by omega) kk ibc ilc igl ibk ifa ibd vz vw vh vk px md nz gr vzd vwd vhd vkd pxd mdd nb bt vr vc vcr ab lf fo lv wk vs vn vs2 vn2 vzc vwc vhc vkc pxc mdc yl yp yt boR vrR vcR crR abR lfR foR lvR wkR usR unR us2R un2R vzr vwr vhr vkr pxr mdr isz ithM icoM iclM irwM ibiM ienM itrM ibl ile igr mbk ist ibr wd hg pix str ladM bkM lvM tdM abM lfM mds nmdM suM mnM thr foL foD hI H locs ls hP hD hS hl
      by_cases s_11 : (xs (6 * j)) &&& 15 = 11
      · refine cs_tin (k := 11) (tgt := 893) hx hb d_Law_law_45 s_11 (by decide) (by decide) rfl (by decide) ?_
        exact L_count C hL hi (by omega) (by omega) kk ibc ilc igl ibk ifa ibd vz vw vh vk px md nz gr vzd vwd vhd vkd pxd mdd nb bt vr vc vcr ab lf fo lv wk vs vn vs2 vn2 vzc vwc vhc vkc pxc mdc yl yp yt boR vrR vcR crR abR lfR foR lvR wkR usR unR us2R un2R vzr vwr vhr vkr pxr mdr isz ithM icoM iclM irwM ibiM ienM itrM ibl ile igr mbk ist ibr wd hg pix str ladM bkM lvM tdM abM lfM mds nmdM suM mnM thr foL foD hI H locs ls hP hD hS hl
      refine lv_tableOut (tgt := 949) hx hb d_Law_law_45 (by have h20 := lv_neT s_0 (a := 0) rfl; have h21 := lv_neT s_1 (a := 1) rfl; have h22 := lv_neT s_2 (a := 2) rfl; have h23 := lv_neT s_3 (a := 3) rfl; have h24 := lv_neT s_4 (a := 4) rfl; have h25 := lv_neT s_5 (a := 5) rfl; have h26 := lv_neT s_6 (a := 6) rfl; have h27 := lv_neT s_7 (a := 7) rfl; have h28 := lv_neT s_8 (a := 8) rfl; have h29 := lv_neT s_9 (a := 9) rfl; have h30 := lv_neT s_10 (a := 10) rfl; have h31 := lv_neT s_11 (a := 11) rfl; omega) (by decide) ?_
      refine W.widen (k := c0 + j + 1) (n := s0 + 6 * j + 6) (by omega) (by omega) ?_
      exact kk ibc ilc igl ibk ifa ibd vz vw vh vk px md nz gr vzd vwd vhd vkd pxd mdd nb bt vr vc vcr ab lf fo lv wk vs vn vs2 vn2 vzc vwc vhc vkc pxc mdc yl yp yt boR vrR vcR crR abR lfR foR lvR wkR usR unR us2R un2R vzr vwr vhr vkr pxr mdr isz ithM icoM iclM irwM ibiM ienM itrM ibl ile igr mbk ist ibr wd hg pix str ladM bkM lvM tdM abM lfM mds nmdM suM mnM thr foL foD hI H locs ls hP hD hS hl
