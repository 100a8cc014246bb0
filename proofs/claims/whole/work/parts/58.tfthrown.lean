theorem mw_567 : (.classLink "TileForge" 51 "java/lang/IllegalArgumentException" : Cond) ∈ GW := List.mem_filter.mpr ⟨(List.mem_append_right _ (List.mem_append_right _ (List.mem_append_left _ (List.mem_of_getElem? (i := 21) rfl)))), rfl⟩
theorem mw_568 : (.instantiable "java/lang/IllegalArgumentException" 6 : Cond) ∈ GW := List.mem_filter.mpr ⟨(List.mem_append_right _ (List.mem_append_right _ (List.mem_append_left _ (List.mem_of_getElem? (i := 22) rfl)))), rfl⟩
theorem mw_569 : (.initialized "java/lang/IllegalArgumentException" : Cond) ∈ GW := List.mem_filter.mpr ⟨(List.mem_append_right _ (List.mem_append_left _ (List.mem_of_getElem? (i := 14) rfl))), rfl⟩
def q_tf_sizeB (cI : ClassId) (f0 : Nat) (a1 : Nat) (c1 : Nat) (r1 : Nat) (y1 : Nat) (k1 : Nat) (j1 : Nat) (ibc : Int32) (ilc : Int32) (igl : Int32) (ibk : Int32) (ifa : Int32) (ibd : Int32) (wi : Int32) (he : Int32) : va_W → Prop := fun ww => ww = [(f0, .inr (8, [.ref a1, .ref c1, .ref r1, .ref y1, .ref k1, .ref j1, .int ibc, .int ilc, .int igl, .int ibk, .int ifa, .int ibd]))]
set_option maxHeartbeats 4000000 in
set_option maxRecDepth 100000 in
theorem c_tf_sizeB (l : Launch) (hst : l.stackTraces = false) {D : va_G} {tys : List (ClassId × FieldType)} {cI : ClassId} (hcI : tys[0]? = some (cI, .int)) (f0 : Nat) (a1 : Nat) (c1 : Nat) (r1 : Nat) (y1 : Nat) (k1 : Nat) (j1 : Nat) (ibc : Int32) (ilc : Int32) (igl : Int32) (ibk : Int32) (ifa : Int32) (ibd : Int32) (wi : Int32) (he : Int32) (hbad : ¬ (sideP wi ∧ sideP he)) : CxE l D vwCl tys y_TileForge_size ws_TileForge_size ({ frames := 6, cells := 1, slots := 6, locals := 81 } : Room) [.ref f0, .int wi, .int he] [(f0, .inr (8, [.ref a1, .ref c1, .ref r1, .ref y1, .ref k1, .ref j1, .int ibc, .int ilc, .int igl, .int ibk, .int ifa, .int ibd]))] (q_tf_sizeB cI f0 a1 c1 r1 y1 k1 j1 ibc ilc igl ibk ifa ibd wi he) "java/lang/IllegalArgumentException" 1 6 := by
  intro sz
  refine cx_ofW (cc := prog_1_method_2_code) (maxL := 3) (ret := (some .int)) (by decide) rfl ?_
  intro p e s m args below meth c s₁ B hml hv
  obtain ⟨rfl, ⟨hsz, hP, hK, hD0, hN⟩, hX⟩ := hv
  have hx := B.exec
  have hb := B.bytes
  have hr := B.returns
  have hts := atoms_spec (ws := ws_TileForge_size) B.pre
  have hown : s.vm.findClass "TileForge" = some m.cls := findClass_of_methodNamed B.named
  have hlocks := B.notSynchronized
  subst hsz
  have hD := hD0.self (sz := s.heap.size)
  generalize hAe : va_A [(f0, .inr (8, [.ref a1, .ref c1, .ref r1, .ref y1, .ref k1, .ref j1, .int ibc, .int ilc, .int igl, .int ibk, .int ifa, .int ibd]))] s.heap.size = A at hD ⊢
  have hA : ∀ q : Nat, s.heap.size ≤ q → A q := fun q h => by rw [← hAe]; exact Or.inr h
  have hS : va_S A s.heap s.heap [] := va_S.rf
  have hP : va_P D vwCl [(f0, .inr (8, [.ref a1, .ref c1, .ref r1, .ref y1, .ref k1, .ref j1, .int ibc, .int ilc, .int igl, .int ibk, .int ifa, .int ibd]))] s.heap := hP
  have hP0 := hP
  have hl := lv_entry ([.ref f0, .int wi, .int he]) (n := 3) (Nat.le_of_ble_eq_true rfl)
  rw [lg_entry_eq]
  generalize (lg_sl ([.ref f0, .int wi, .int he]) ++ List.replicate (3 - (lg_sl ([.ref f0, .int wi, .int he])).length) Slot.unset).toArray = ls at hl ⊢
  have hl : lv_has ls 3 [(0, .ref f0), (1, .int wi), (2, .int he)] := hl
  refine lv_iload_n hx hb d_TileForge_size_0 rfl (lv_at hl 1 rfl) ?_
  refine cs_Si (As := [.int wi]) (rest := []) (wr := [(f0, .inr (8, [.ref a1, .ref c1, .ref r1, .ref y1, .ref k1, .ref j1, .int ibc, .int ilc, .int igl, .int ibk, .int ifa, .int ibd]))]) ⟨hx, hb, hml, hown, hts⟩ (c_isSide l hcI wi) (va_cwS 1 hts (cs_gS mw_498 mw_140 mw_139 mw_73) rfl rfl rfl hd_TileForge_isSide ⟨Nat.le_of_ble_eq_true rfl, Nat.le_of_ble_eq_true rfl⟩) hN hK hP hD hS hA [] [0] rfl rfl rfl rfl (by decide) rfl rfl hl.1 (Nat.le_of_ble_eq_true rfl) d_TileForge_size_1 ⟨Nat.le_of_ble_eq_true rfl, Nat.le_of_ble_eq_true rfl⟩ (fun r1 w1 H locs hw hP hD hS => ?_)
  obtain ⟨rfl, rfl⟩ := hw
  have hP : va_P D vwCl [(f0, .inr (8, [.ref a1, .ref c1, .ref r1, .ref y1, .ref k1, .ref j1, .int ibc, .int ilc, .int igl, .int ibk, .int ifa, .int ibd]))] H := hP
  have hD : va_D A [(f0, .inr (8, [.ref a1, .ref c1, .ref r1, .ref y1, .ref k1, .ref j1, .int ibc, .int ilc, .int igl, .int ibk, .int ifa, .int ibd]))] := hD
  refine lv_if_eq (tgt := 14) hx hb d_TileForge_size_4 (by decide) (fun c_4 => ?_) (fun c_4 => ?_)
  · have c_4 := cs_b0 c_4
    exact cx_thr (ix := 51) (ic := 53) (E := "java/lang/IllegalArgumentException") (post := (q_tf_sizeB cI f0 a1 c1 r1 y1 k1 j1 ibc ilc igl ibk ifa ibd wi he)) hx hb hst (hl.1.trans hml.symm) B.named hts hown hX hP0 hAe mw_567 mw_568 mw_569 oa_IAE fi_IAE hK hP hD hS hlocks (Nat.le_of_ble_eq_true rfl) (Nat.le_of_ble_eq_true rfl) (Nat.le_of_ble_eq_true rfl) (Nat.le_of_ble_eq_true rfl) (Nat.le_of_ble_eq_true rfl) (Nat.le_of_ble_eq_true rfl) d_TileForge_size_14 d_TileForge_size_17 d_TileForge_size_18 d_TileForge_size_21  (show _ = _ from rfl)
  · have c_4 := cs_b1 c_4
    refine lv_iload_n hx hb d_TileForge_size_7 rfl (lv_at hl 2 rfl) ?_
    refine cs_Si (As := [.int he]) (rest := []) (wr := [(f0, .inr (8, [.ref a1, .ref c1, .ref r1, .ref y1, .ref k1, .ref j1, .int ibc, .int ilc, .int igl, .int ibk, .int ifa, .int ibd]))]) ⟨hx, hb, hml, hown, hts⟩ (c_isSide l hcI he) (va_cwS 1 hts (cs_gS mw_498 mw_140 mw_139 mw_73) rfl rfl rfl hd_TileForge_isSide ⟨Nat.le_of_ble_eq_true rfl, Nat.le_of_ble_eq_true rfl⟩) hN hK hP hD hS hA [] [0] rfl rfl rfl rfl (by decide) rfl rfl hl.1 (Nat.le_of_ble_eq_true rfl) d_TileForge_size_8 ⟨Nat.le_of_ble_eq_true rfl, Nat.le_of_ble_eq_true rfl⟩ (fun r2 w1 H locs hw hP hD hS => ?_)
    obtain ⟨rfl, rfl⟩ := hw
    have hP : va_P D vwCl [(f0, .inr (8, [.ref a1, .ref c1, .ref r1, .ref y1, .ref k1, .ref j1, .int ibc, .int ilc, .int igl, .int ibk, .int ifa, .int ibd]))] H := hP
    have hD : va_D A [(f0, .inr (8, [.ref a1, .ref c1, .ref r1, .ref y1, .ref k1, .ref j1, .int ibc, .int ilc, .int igl, .int ibk, .int ifa, .int ibd]))] := hD
    refine lv_if_ne (tgt := 22) hx hb d_TileForge_size_11 (by decide) (fun c_11 => ?_) (fun c_11 => ?_)
    · have c_11 := cs_b1 c_11
      exact absurd (⟨c_4, c_11⟩ : sideP wi ∧ sideP he) hbad
    · have c_11 := cs_b0 c_11
      exact cx_thr (ix := 51) (ic := 53) (E := "java/lang/IllegalArgumentException") (post := (q_tf_sizeB cI f0 a1 c1 r1 y1 k1 j1 ibc ilc igl ibk ifa ibd wi he)) hx hb hst (hl.1.trans hml.symm) B.named hts hown hX hP0 hAe mw_567 mw_568 mw_569 oa_IAE fi_IAE hK hP hD hS hlocks (Nat.le_of_ble_eq_true rfl) (Nat.le_of_ble_eq_true rfl) (Nat.le_of_ble_eq_true rfl) (Nat.le_of_ble_eq_true rfl) (Nat.le_of_ble_eq_true rfl) (Nat.le_of_ble_eq_true rfl) d_TileForge_size_14 d_TileForge_size_17 d_TileForge_size_18 d_TileForge_size_21  (show _ = _ from rfl)
def q_tf_pixelB (cI : ClassId) (f0 : Nat) (a1 : Nat) (c1 : Nat) (r1 : Nat) (y1 : Nat) (k1 : Nat) (j1 : Nat) (ibc : Int32) (ilc : Int32) (igl : Int32) (ibk : Int32) (ifa : Int32) (ibd : Int32) (x : Int32) (y : Int32) (v : Int32) : va_W → Prop := fun ww => ww = [(f0, .inr (8, [.ref a1, .ref c1, .ref r1, .ref y1, .ref k1, .ref j1, .int ibc, .int ilc, .int igl, .int ibk, .int ifa, .int ibd]))]
set_option maxHeartbeats 4000000 in
set_option maxRecDepth 100000 in
theorem c_tf_pixelB (l : Launch) (hst : l.stackTraces = false) {D : va_G} {tys : List (ClassId × FieldType)} {cI : ClassId} (hcI : tys[0]? = some (cI, .int)) (f0 : Nat) (a1 : Nat) (c1 : Nat) (r1 : Nat) (y1 : Nat) (k1 : Nat) (j1 : Nat) (ibc : Int32) (ilc : Int32) (igl : Int32) (ibk : Int32) (ifa : Int32) (ibd : Int32) (x : Int32) (y : Int32) (v : Int32) (hvv : ¬ (¬ v < 0 ∧ ¬ 255 < v)) : CxE l D vwCl tys y_TileForge_pixel ws_TileForge_pixel ({ frames := 6, cells := 1, slots := 6, locals := 81 } : Room) [.ref f0, .int x, .int y, .int v] [(f0, .inr (8, [.ref a1, .ref c1, .ref r1, .ref y1, .ref k1, .ref j1, .int ibc, .int ilc, .int igl, .int ibk, .int ifa, .int ibd]))] (q_tf_pixelB cI f0 a1 c1 r1 y1 k1 j1 ibc ilc igl ibk ifa ibd x y v) "java/lang/IllegalArgumentException" 1 6 := by
  intro sz
  refine cx_ofW (cc := prog_1_method_3_code) (maxL := 5) (ret := (some .int)) (by decide) rfl ?_
  intro p e s m args below meth c s₁ B hml hv
  obtain ⟨rfl, ⟨hsz, hP, hK, hD0, hN⟩, hX⟩ := hv
  have hx := B.exec
  have hb := B.bytes
  have hr := B.returns
  have hts := atoms_spec (ws := ws_TileForge_pixel) B.pre
  have hown : s.vm.findClass "TileForge" = some m.cls := findClass_of_methodNamed B.named
  have hlocks := B.notSynchronized
  subst hsz
  have hD := hD0.self (sz := s.heap.size)
  generalize hAe : va_A [(f0, .inr (8, [.ref a1, .ref c1, .ref r1, .ref y1, .ref k1, .ref j1, .int ibc, .int ilc, .int igl, .int ibk, .int ifa, .int ibd]))] s.heap.size = A at hD ⊢
  have hA : ∀ q : Nat, s.heap.size ≤ q → A q := fun q h => by rw [← hAe]; exact Or.inr h
  have hS : va_S A s.heap s.heap [] := va_S.rf
  have hP : va_P D vwCl [(f0, .inr (8, [.ref a1, .ref c1, .ref r1, .ref y1, .ref k1, .ref j1, .int ibc, .int ilc, .int igl, .int ibk, .int ifa, .int ibd]))] s.heap := hP
  have hP0 := hP
  have hl := lv_entry ([.ref f0, .int x, .int y, .int v]) (n := 5) (Nat.le_of_ble_eq_true rfl)
  rw [lg_entry_eq]
  generalize (lg_sl ([.ref f0, .int x, .int y, .int v]) ++ List.replicate (5 - (lg_sl ([.ref f0, .int x, .int y, .int v])).length) Slot.unset).toArray = ls at hl ⊢
  have hl : lv_has ls 5 [(0, .ref f0), (1, .int x), (2, .int y), (3, .int v)] := hl
  refine lv_iload_n hx hb d_TileForge_pixel_0 rfl (lv_at hl 3 rfl) ?_
  refine cs_Si (As := [.int v]) (rest := []) (wr := [(f0, .inr (8, [.ref a1, .ref c1, .ref r1, .ref y1, .ref k1, .ref j1, .int ibc, .int ilc, .int igl, .int ibk, .int ifa, .int ibd]))]) ⟨hx, hb, hml, hown, hts⟩ (c_isPixel l hcI v) (va_cwS 1 hts (cs_gS mw_501 mw_502 mw_139 mw_74) rfl rfl rfl hd_TileForge_isPixel ⟨Nat.le_of_ble_eq_true rfl, Nat.le_of_ble_eq_true rfl⟩) hN hK hP hD hS hA [] [0] rfl rfl rfl rfl (by decide) rfl rfl hl.1 (Nat.le_of_ble_eq_true rfl) d_TileForge_pixel_1 ⟨Nat.le_of_ble_eq_true rfl, Nat.le_of_ble_eq_true rfl⟩ (fun r1 w1 H locs hw hP hD hS => ?_)
  obtain ⟨rfl, rfl⟩ := hw
  have hP : va_P D vwCl [(f0, .inr (8, [.ref a1, .ref c1, .ref r1, .ref y1, .ref k1, .ref j1, .int ibc, .int ilc, .int igl, .int ibk, .int ifa, .int ibd]))] H := hP
  have hD : va_D A [(f0, .inr (8, [.ref a1, .ref c1, .ref r1, .ref y1, .ref k1, .ref j1, .int ibc, .int ilc, .int igl, .int ibk, .int ifa, .int ibd]))] := hD
  refine lv_if_ne (tgt := 15) hx hb d_TileForge_pixel_4 (by decide) (fun c_4 => ?_) (fun c_4 => ?_)
  · have c_4 := cs_b1 c_4
    exact absurd c_4 hvv
  · have c_4 := cs_b0 c_4
    exact cx_thr (ix := 51) (ic := 53) (E := "java/lang/IllegalArgumentException") (post := (q_tf_pixelB cI f0 a1 c1 r1 y1 k1 j1 ibc ilc igl ibk ifa ibd x y v)) hx hb hst (hl.1.trans hml.symm) B.named hts hown hX hP0 hAe mw_567 mw_568 mw_569 oa_IAE fi_IAE hK hP hD hS hlocks (Nat.le_of_ble_eq_true rfl) (Nat.le_of_ble_eq_true rfl) (Nat.le_of_ble_eq_true rfl) (Nat.le_of_ble_eq_true rfl) (Nat.le_of_ble_eq_true rfl) (Nat.le_of_ble_eq_true rfl) d_TileForge_pixel_7 d_TileForge_pixel_10 d_TileForge_pixel_11 d_TileForge_pixel_14  (show _ = _ from rfl)
theorem mw_570 : (.classLink "TileForge" 61 "java/lang/IndexOutOfBoundsException" : Cond) ∈ GW := List.mem_filter.mpr ⟨(List.mem_append_right _ (List.mem_append_right _ (List.mem_append_left _ (List.mem_of_getElem? (i := 100) rfl)))), rfl⟩
theorem mw_571 : (.instantiable "java/lang/IndexOutOfBoundsException" 6 : Cond) ∈ GW := List.mem_filter.mpr ⟨(List.mem_append_right _ (List.mem_append_right _ (List.mem_append_left _ (List.mem_of_getElem? (i := 101) rfl)))), rfl⟩
theorem mw_572 : (.initialized "java/lang/IndexOutOfBoundsException" : Cond) ∈ GW := List.mem_filter.mpr ⟨(List.mem_append_right _ (List.mem_append_left _ (List.mem_of_getElem? (i := 15) rfl))), rfl⟩
def q_tf_pixelC (cI : ClassId) (f0 : Nat) (a1 : Nat) (c1 : Nat) (r1 : Nat) (y1 : Nat) (k1 : Nat) (j1 : Nat) (ibc : Int32) (ilc : Int32) (igl : Int32) (ibk : Int32) (ifa : Int32) (ibd : Int32) (a2 : Nat) (a3 : Nat) (px : Nat → Int32) (md : Nat → Int32) (vz : Int32) (vw : Int32) (vh : Int32) (vk : Int32) (x : Int32) (y : Int32) (v : Int32) : va_W → Prop := fun ww => ww = [(f0, .inr (8, [.ref a1, .ref c1, .ref r1, .ref y1, .ref k1, .ref j1, .int ibc, .int ilc, .int igl, .int ibk, .int ifa, .int ibd])), (a1, .inr (5, [.ref a2, .ref a3, .int vz, .int vw, .int vh, .int vk])), (a2, .inl (cI, 144, .inl px)), (a3, .inl (cI, 9, .inl md))]
set_option maxHeartbeats 4000000 in
set_option maxRecDepth 100000 in
theorem c_tf_pixelC (l : Launch) (hst : l.stackTraces = false) {D : va_G} {tys : List (ClassId × FieldType)} {cI : ClassId} (hcI : tys[0]? = some (cI, .int)) (f0 : Nat) (a1 : Nat) (c1 : Nat) (r1 : Nat) (y1 : Nat) (k1 : Nat) (j1 : Nat) (ibc : Int32) (ilc : Int32) (igl : Int32) (ibk : Int32) (ifa : Int32) (ibd : Int32) (a2 : Nat) (a3 : Nat) (px : Nat → Int32) (md : Nat → Int32) (vz : Int32) (vw : Int32) (vh : Int32) (vk : Int32) (x : Int32) (y : Int32) (v : Int32) (hvv : ¬ v < 0 ∧ ¬ 255 < v) (hno : ¬ hasP vw vh x y) : CxE l D vwCl tys y_TileForge_pixel ws_TileForge_pixel ({ frames := 6, cells := 1, slots := 6, locals := 81 } : Room) [.ref f0, .int x, .int y, .int v] [(f0, .inr (8, [.ref a1, .ref c1, .ref r1, .ref y1, .ref k1, .ref j1, .int ibc, .int ilc, .int igl, .int ibk, .int ifa, .int ibd])), (a1, .inr (5, [.ref a2, .ref a3, .int vz, .int vw, .int vh, .int vk])), (a2, .inl (cI, 144, .inl px)), (a3, .inl (cI, 9, .inl md))] (q_tf_pixelC cI f0 a1 c1 r1 y1 k1 j1 ibc ilc igl ibk ifa ibd a2 a3 px md vz vw vh vk x y v) "java/lang/IndexOutOfBoundsException" 1 6 := by
  intro sz
  refine cx_ofW (cc := prog_1_method_3_code) (maxL := 5) (ret := (some .int)) (by decide) rfl ?_
  intro p e s m args below meth c s₁ B hml hv
  obtain ⟨rfl, ⟨hsz, hP, hK, hD0, hN⟩, hX⟩ := hv
  have hx := B.exec
  have hb := B.bytes
  have hr := B.returns
  have hts := atoms_spec (ws := ws_TileForge_pixel) B.pre
  have hown : s.vm.findClass "TileForge" = some m.cls := findClass_of_methodNamed B.named
  have hlocks := B.notSynchronized
  subst hsz
  have hD := hD0.self (sz := s.heap.size)
  generalize hAe : va_A [(f0, .inr (8, [.ref a1, .ref c1, .ref r1, .ref y1, .ref k1, .ref j1, .int ibc, .int ilc, .int igl, .int ibk, .int ifa, .int ibd])), (a1, .inr (5, [.ref a2, .ref a3, .int vz, .int vw, .int vh, .int vk])), (a2, .inl (cI, 144, .inl px)), (a3, .inl (cI, 9, .inl md))] s.heap.size = A at hD ⊢
  have hA : ∀ q : Nat, s.heap.size ≤ q → A q := fun q h => by rw [← hAe]; exact Or.inr h
  have hS : va_S A s.heap s.heap [] := va_S.rf
  have hP : va_P D vwCl [(f0, .inr (8, [.ref a1, .ref c1, .ref r1, .ref y1, .ref k1, .ref j1, .int ibc, .int ilc, .int igl, .int ibk, .int ifa, .int ibd])), (a1, .inr (5, [.ref a2, .ref a3, .int vz, .int vw, .int vh, .int vk])), (a2, .inl (cI, 144, .inl px)), (a3, .inl (cI, 9, .inl md))] s.heap := hP
  have hP0 := hP
  have hl := lv_entry ([.ref f0, .int x, .int y, .int v]) (n := 5) (Nat.le_of_ble_eq_true rfl)
  rw [lg_entry_eq]
  generalize (lg_sl ([.ref f0, .int x, .int y, .int v]) ++ List.replicate (5 - (lg_sl ([.ref f0, .int x, .int y, .int v])).length) Slot.unset).toArray = ls at hl ⊢
  have hl : lv_has ls 5 [(0, .ref f0), (1, .int x), (2, .int y), (3, .int v)] := hl
  refine lv_iload_n hx hb d_TileForge_pixel_0 rfl (lv_at hl 3 rfl) ?_
  refine cs_Si (As := [.int v]) (rest := []) (wr := [(f0, .inr (8, [.ref a1, .ref c1, .ref r1, .ref y1, .ref k1, .ref j1, .int ibc, .int ilc, .int igl, .int ibk, .int ifa, .int ibd])), (a1, .inr (5, [.ref a2, .ref a3, .int vz, .int vw, .int vh, .int vk])), (a2, .inl (cI, 144, .inl px)), (a3, .inl (cI, 9, .inl md))]) ⟨hx, hb, hml, hown, hts⟩ (c_isPixel l hcI v) (va_cwS 1 hts (cs_gS mw_501 mw_502 mw_139 mw_74) rfl rfl rfl hd_TileForge_isPixel ⟨Nat.le_of_ble_eq_true rfl, Nat.le_of_ble_eq_true rfl⟩) hN hK hP hD hS hA [] [0, 1, 2, 3] rfl rfl rfl rfl (by decide) rfl rfl hl.1 (Nat.le_of_ble_eq_true rfl) d_TileForge_pixel_1 ⟨Nat.le_of_ble_eq_true rfl, Nat.le_of_ble_eq_true rfl⟩ (fun r1 w1 H locs hw hP hD hS => ?_)
  obtain ⟨rfl, rfl⟩ := hw
  have hP : va_P D vwCl [(f0, .inr (8, [.ref a1, .ref c1, .ref r1, .ref y1, .ref k1, .ref j1, .int ibc, .int ilc, .int igl, .int ibk, .int ifa, .int ibd])), (a1, .inr (5, [.ref a2, .ref a3, .int vz, .int vw, .int vh, .int vk])), (a2, .inl (cI, 144, .inl px)), (a3, .inl (cI, 9, .inl md))] H := hP
  have hD : va_D A [(f0, .inr (8, [.ref a1, .ref c1, .ref r1, .ref y1, .ref k1, .ref j1, .int ibc, .int ilc, .int igl, .int ibk, .int ifa, .int ibd])), (a1, .inr (5, [.ref a2, .ref a3, .int vz, .int vw, .int vh, .int vk])), (a2, .inl (cI, 144, .inl px)), (a3, .inl (cI, 9, .inl md))] := hD
  refine lv_if_ne (tgt := 15) hx hb d_TileForge_pixel_4 (by decide) (fun c_4 => ?_) (fun c_4 => ?_)
  · have c_4 := cs_b1 c_4
    refine lv_aload_n hx hb d_TileForge_pixel_15 rfl (lv_at hl 0 rfl) ?_
    refine va_get (D := D) (ci := 8) (v := .ref a1) (C := "TileForge") (T := T_TileForge) (N := 12) hx hb hts (cs_in in_TileForge) hown hK hP 0 rfl rfl 0 (by decide) (hts _ (cs_m mw_473)) (fun _ h9 => h9) rfl d_TileForge_pixel_16 ?_
    refine lv_iload_n hx hb d_TileForge_pixel_19 rfl (lv_at hl 1 rfl) ?_
    refine lv_iload_n hx hb d_TileForge_pixel_20 rfl (lv_at hl 2 rfl) ?_
    refine cs_Vi (As := [.int x, .int y]) (rest := []) (wr := [(f0, .inr (8, [.ref a1, .ref c1, .ref r1, .ref y1, .ref k1, .ref j1, .int ibc, .int ilc, .int igl, .int ibk, .int ifa, .int ibd]))]) ⟨hx, hb, hml, hown, hts⟩ (c_pic_has l hcI a1 a2 a3 px md vz vw vh vk x y) (cwV 2 hts (cs_gV mw_503 mw_95 mw_96 mw_93 mw_91) rfl rfl rfl ⟨rfl, hd_Picture_has⟩ ⟨Nat.le_of_ble_eq_true rfl, Nat.le_of_ble_eq_true rfl⟩) hN hK hP hD hS hA [1, 2, 3] [0] rfl rfl rfl rfl (by decide) (ci := 5) rfl rfl rfl rfl rfl hl.1 (Nat.le_of_ble_eq_true rfl) d_TileForge_pixel_21 ⟨Nat.le_of_ble_eq_true rfl, Nat.le_of_ble_eq_true rfl⟩ (fun r2 w1 H locs hw hP hD hS => ?_)
    obtain ⟨rfl, rfl⟩ := hw
    have hP : va_P D vwCl [(f0, .inr (8, [.ref a1, .ref c1, .ref r1, .ref y1, .ref k1, .ref j1, .int ibc, .int ilc, .int igl, .int ibk, .int ifa, .int ibd])), (a1, .inr (5, [.ref a2, .ref a3, .int vz, .int vw, .int vh, .int vk])), (a2, .inl (cI, 144, .inl px)), (a3, .inl (cI, 9, .inl md))] H := hP
    have hD : va_D A [(f0, .inr (8, [.ref a1, .ref c1, .ref r1, .ref y1, .ref k1, .ref j1, .int ibc, .int ilc, .int igl, .int ibk, .int ifa, .int ibd])), (a1, .inr (5, [.ref a2, .ref a3, .int vz, .int vw, .int vh, .int vk])), (a2, .inl (cI, 144, .inl px)), (a3, .inl (cI, 9, .inl md))] := hD
    refine lv_if_ne (tgt := 35) hx hb d_TileForge_pixel_24 (by decide) (fun c_24 => ?_) (fun c_24 => ?_)
    · have c_24 := cs_b1 c_24
      exact absurd c_24 hno
    · have c_24 := cs_b0 c_24
      exact cx_thr (ix := 61) (ic := 63) (E := "java/lang/IndexOutOfBoundsException") (post := (q_tf_pixelC cI f0 a1 c1 r1 y1 k1 j1 ibc ilc igl ibk ifa ibd a2 a3 px md vz vw vh vk x y v)) hx hb hst (hl.1.trans hml.symm) B.named hts hown hX hP0 hAe mw_570 mw_571 mw_572 oa_IOB fi_IOB hK hP hD hS hlocks (Nat.le_of_ble_eq_true rfl) (Nat.le_of_ble_eq_true rfl) (Nat.le_of_ble_eq_true rfl) (Nat.le_of_ble_eq_true rfl) (Nat.le_of_ble_eq_true rfl) (Nat.le_of_ble_eq_true rfl) d_TileForge_pixel_27 d_TileForge_pixel_30 d_TileForge_pixel_31 d_TileForge_pixel_34  (show _ = _ from rfl)
  · have c_4 := cs_b0 c_4
    exact absurd hvv c_4
def q_tf_fillB (cI : ClassId) (f0 : Nat) (a1 : Nat) (c1 : Nat) (r1 : Nat) (y1 : Nat) (k1 : Nat) (j1 : Nat) (ibc : Int32) (ilc : Int32) (igl : Int32) (ibk : Int32) (ifa : Int32) (ibd : Int32) (x : Int32) (y : Int32) (v : Int32) (g : Int32) (h : Int32) : va_W → Prop := fun ww => ww = [(f0, .inr (8, [.ref a1, .ref c1, .ref r1, .ref y1, .ref k1, .ref j1, .int ibc, .int ilc, .int igl, .int ibk, .int ifa, .int ibd]))]
set_option maxHeartbeats 4000000 in
set_option maxRecDepth 100000 in
theorem c_tf_fillB (l : Launch) (hst : l.stackTraces = false) {D : va_G} {tys : List (ClassId × FieldType)} {cI : ClassId} (hcI : tys[0]? = some (cI, .int)) (f0 : Nat) (a1 : Nat) (c1 : Nat) (r1 : Nat) (y1 : Nat) (k1 : Nat) (j1 : Nat) (ibc : Int32) (ilc : Int32) (igl : Int32) (ibk : Int32) (ifa : Int32) (ibd : Int32) (x : Int32) (y : Int32) (v : Int32) (g : Int32) (h : Int32) (hbad : ¬ ((¬ v < 0 ∧ ¬ 255 < v) ∧ (¬ g < (-255) ∧ ¬ 255 < g) ∧ (¬ h < (-255) ∧ ¬ 255 < h))) : CxE l D vwCl tys y_TileForge_fill ws_TileForge_fill ({ frames := 6, cells := 1, slots := 6, locals := 81 } : Room) [.ref f0, .int x, .int y, .int v, .int g, .int h] [(f0, .inr (8, [.ref a1, .ref c1, .ref r1, .ref y1, .ref k1, .ref j1, .int ibc, .int ilc, .int igl, .int ibk, .int ifa, .int ibd]))] (q_tf_fillB cI f0 a1 c1 r1 y1 k1 j1 ibc ilc igl ibk ifa ibd x y v g h) "java/lang/IllegalArgumentException" 1 6 := by
  intro sz
  refine cx_ofW (cc := prog_1_method_4_code) (maxL := 9) (ret := (some .int)) (by decide) rfl ?_
  intro p e s m args below meth c s₁ B hml hv
  obtain ⟨rfl, ⟨hsz, hP, hK, hD0, hN⟩, hX⟩ := hv
  have hx := B.exec
  have hb := B.bytes
  have hr := B.returns
  have hts := atoms_spec (ws := ws_TileForge_fill) B.pre
  have hown : s.vm.findClass "TileForge" = some m.cls := findClass_of_methodNamed B.named
  have hlocks := B.notSynchronized
  subst hsz
  have hD := hD0.self (sz := s.heap.size)
  generalize hAe : va_A [(f0, .inr (8, [.ref a1, .ref c1, .ref r1, .ref y1, .ref k1, .ref j1, .int ibc, .int ilc, .int igl, .int ibk, .int ifa, .int ibd]))] s.heap.size = A at hD ⊢
  have hA : ∀ q : Nat, s.heap.size ≤ q → A q := fun q h => by rw [← hAe]; exact Or.inr h
  have hS : va_S A s.heap s.heap [] := va_S.rf
  have hP : va_P D vwCl [(f0, .inr (8, [.ref a1, .ref c1, .ref r1, .ref y1, .ref k1, .ref j1, .int ibc, .int ilc, .int igl, .int ibk, .int ifa, .int ibd]))] s.heap := hP
  have hP0 := hP
  have hl := lv_entry ([.ref f0, .int x, .int y, .int v, .int g, .int h]) (n := 9) (Nat.le_of_ble_eq_true rfl)
  rw [lg_entry_eq]
  generalize (lg_sl ([.ref f0, .int x, .int y, .int v, .int g, .int h]) ++ List.replicate (9 - (lg_sl ([.ref f0, .int x, .int y, .int v, .int g, .int h])).length) Slot.unset).toArray = ls at hl ⊢
  have hl : lv_has ls 9 [(0, .ref f0), (1, .int x), (2, .int y), (3, .int v), (4, .int g), (5, .int h)] := hl
  refine lv_iload_n hx hb d_TileForge_fill_0 rfl (lv_at hl 3 rfl) ?_
  refine cs_Si (As := [.int v]) (rest := []) (wr := [(f0, .inr (8, [.ref a1, .ref c1, .ref r1, .ref y1, .ref k1, .ref j1, .int ibc, .int ilc, .int igl, .int ibk, .int ifa, .int ibd]))]) ⟨hx, hb, hml, hown, hts⟩ (c_isPixel l hcI v) (va_cwS 1 hts (cs_gS mw_501 mw_502 mw_139 mw_74) rfl rfl rfl hd_TileForge_isPixel ⟨Nat.le_of_ble_eq_true rfl, Nat.le_of_ble_eq_true rfl⟩) hN hK hP hD hS hA [] [0] rfl rfl rfl rfl (by decide) rfl rfl hl.1 (Nat.le_of_ble_eq_true rfl) d_TileForge_fill_1 ⟨Nat.le_of_ble_eq_true rfl, Nat.le_of_ble_eq_true rfl⟩ (fun r1 w1 H locs hw hP hD hS => ?_)
  obtain ⟨rfl, rfl⟩ := hw
  have hP : va_P D vwCl [(f0, .inr (8, [.ref a1, .ref c1, .ref r1, .ref y1, .ref k1, .ref j1, .int ibc, .int ilc, .int igl, .int ibk, .int ifa, .int ibd]))] H := hP
  have hD : va_D A [(f0, .inr (8, [.ref a1, .ref c1, .ref r1, .ref y1, .ref k1, .ref j1, .int ibc, .int ilc, .int igl, .int ibk, .int ifa, .int ibd]))] := hD
  refine lv_if_eq (tgt := 23) hx hb d_TileForge_fill_4 (by decide) (fun c_4 => ?_) (fun c_4 => ?_)
  · have c_4 := cs_b0 c_4
    exact cx_thr (ix := 51) (ic := 53) (E := "java/lang/IllegalArgumentException") (post := (q_tf_fillB cI f0 a1 c1 r1 y1 k1 j1 ibc ilc igl ibk ifa ibd x y v g h)) hx hb hst (hl.1.trans hml.symm) B.named hts hown hX hP0 hAe mw_567 mw_568 mw_569 oa_IAE fi_IAE hK hP hD hS hlocks (Nat.le_of_ble_eq_true rfl) (Nat.le_of_ble_eq_true rfl) (Nat.le_of_ble_eq_true rfl) (Nat.le_of_ble_eq_true rfl) (Nat.le_of_ble_eq_true rfl) (Nat.le_of_ble_eq_true rfl) d_TileForge_fill_23 d_TileForge_fill_26 d_TileForge_fill_27 d_TileForge_fill_30  (show _ = _ from rfl)
  · have c_4 := cs_b1 c_4
    refine lv_iload hx hb d_TileForge_fill_7 (lv_at hl 4 rfl) ?_
    refine cs_Si (As := [.int g]) (rest := []) (wr := [(f0, .inr (8, [.ref a1, .ref c1, .ref r1, .ref y1, .ref k1, .ref j1, .int ibc, .int ilc, .int igl, .int ibk, .int ifa, .int ibd]))]) ⟨hx, hb, hml, hown, hts⟩ (c_isSlope l hcI g) (va_cwS 1 hts (cs_gS mw_506 mw_507 mw_139 mw_75) rfl rfl rfl hd_TileForge_isSlope ⟨Nat.le_of_ble_eq_true rfl, Nat.le_of_ble_eq_true rfl⟩) hN hK hP hD hS hA [] [0] rfl rfl rfl rfl (by decide) rfl rfl hl.1 (Nat.le_of_ble_eq_true rfl) d_TileForge_fill_9 ⟨Nat.le_of_ble_eq_true rfl, Nat.le_of_ble_eq_true rfl⟩ (fun r2 w1 H locs hw hP hD hS => ?_)
    obtain ⟨rfl, rfl⟩ := hw
    have hP : va_P D vwCl [(f0, .inr (8, [.ref a1, .ref c1, .ref r1, .ref y1, .ref k1, .ref j1, .int ibc, .int ilc, .int igl, .int ibk, .int ifa, .int ibd]))] H := hP
    have hD : va_D A [(f0, .inr (8, [.ref a1, .ref c1, .ref r1, .ref y1, .ref k1, .ref j1, .int ibc, .int ilc, .int igl, .int ibk, .int ifa, .int ibd]))] := hD
    refine lv_if_eq (tgt := 23) hx hb d_TileForge_fill_12 (by decide) (fun c_12 => ?_) (fun c_12 => ?_)
    · have c_12 := cs_b0 c_12
      exact cx_thr (ix := 51) (ic := 53) (E := "java/lang/IllegalArgumentException") (post := (q_tf_fillB cI f0 a1 c1 r1 y1 k1 j1 ibc ilc igl ibk ifa ibd x y v g h)) hx hb hst (hl.1.trans hml.symm) B.named hts hown hX hP0 hAe mw_567 mw_568 mw_569 oa_IAE fi_IAE hK hP hD hS hlocks (Nat.le_of_ble_eq_true rfl) (Nat.le_of_ble_eq_true rfl) (Nat.le_of_ble_eq_true rfl) (Nat.le_of_ble_eq_true rfl) (Nat.le_of_ble_eq_true rfl) (Nat.le_of_ble_eq_true rfl) d_TileForge_fill_23 d_TileForge_fill_26 d_TileForge_fill_27 d_TileForge_fill_30  (show _ = _ from rfl)
    · have c_12 := cs_b1 c_12
      refine lv_iload hx hb d_TileForge_fill_15 (lv_at hl 5 rfl) ?_
      refine cs_Si (As := [.int h]) (rest := []) (wr := [(f0, .inr (8, [.ref a1, .ref c1, .ref r1, .ref y1, .ref k1, .ref j1, .int ibc, .int ilc, .int igl, .int ibk, .int ifa, .int ibd]))]) ⟨hx, hb, hml, hown, hts⟩ (c_isSlope l hcI h) (va_cwS 1 hts (cs_gS mw_506 mw_507 mw_139 mw_75) rfl rfl rfl hd_TileForge_isSlope ⟨Nat.le_of_ble_eq_true rfl, Nat.le_of_ble_eq_true rfl⟩) hN hK hP hD hS hA [] [0] rfl rfl rfl rfl (by decide) rfl rfl hl.1 (Nat.le_of_ble_eq_true rfl) d_TileForge_fill_17 ⟨Nat.le_of_ble_eq_true rfl, Nat.le_of_ble_eq_true rfl⟩ (fun r3 w1 H locs hw hP hD hS => ?_)
      obtain ⟨rfl, rfl⟩ := hw
      have hP : va_P D vwCl [(f0, .inr (8, [.ref a1, .ref c1, .ref r1, .ref y1, .ref k1, .ref j1, .int ibc, .int ilc, .int igl, .int ibk, .int ifa, .int ibd]))] H := hP
      have hD : va_D A [(f0, .inr (8, [.ref a1, .ref c1, .ref r1, .ref y1, .ref k1, .ref j1, .int ibc, .int ilc, .int igl, .int ibk, .int ifa, .int ibd]))] := hD
      refine lv_if_ne (tgt := 31) hx hb d_TileForge_fill_20 (by decide) (fun c_20 => ?_) (fun c_20 => ?_)
      · have c_20 := cs_b1 c_20
        exact absurd (⟨c_4, c_12, c_20⟩ : (¬ v < 0 ∧ ¬ 255 < v) ∧ (¬ g < (-255) ∧ ¬ 255 < g) ∧ (¬ h < (-255) ∧ ¬ 255 < h)) hbad
      · have c_20 := cs_b0 c_20
        exact cx_thr (ix := 51) (ic := 53) (E := "java/lang/IllegalArgumentException") (post := (q_tf_fillB cI f0 a1 c1 r1 y1 k1 j1 ibc ilc igl ibk ifa ibd x y v g h)) hx hb hst (hl.1.trans hml.symm) B.named hts hown hX hP0 hAe mw_567 mw_568 mw_569 oa_IAE fi_IAE hK hP hD hS hlocks (Nat.le_of_ble_eq_true rfl) (Nat.le_of_ble_eq_true rfl) (Nat.le_of_ble_eq_true rfl) (Nat.le_of_ble_eq_true rfl) (Nat.le_of_ble_eq_true rfl) (Nat.le_of_ble_eq_true rfl) d_TileForge_fill_23 d_TileForge_fill_26 d_TileForge_fill_27 d_TileForge_fill_30  (show _ = _ from rfl)
def q_tf_fillC (cI : ClassId) (f0 : Nat) (a1 : Nat) (c1 : Nat) (r1 : Nat) (y1 : Nat) (k1 : Nat) (j1 : Nat) (ibc : Int32) (ilc : Int32) (igl : Int32) (ibk : Int32) (ifa : Int32) (ibd : Int32) (a2 : Nat) (a3 : Nat) (px : Nat → Int32) (md : Nat → Int32) (vz : Int32) (vw : Int32) (vh : Int32) (vk : Int32) (x : Int32) (y : Int32) (v : Int32) (g : Int32) (h : Int32) : va_W → Prop := fun ww => ww = [(f0, .inr (8, [.ref a1, .ref c1, .ref r1, .ref y1, .ref k1, .ref j1, .int ibc, .int ilc, .int igl, .int ibk, .int ifa, .int ibd])), (a1, .inr (5, [.ref a2, .ref a3, .int vz, .int vw, .int vh, .int vk])), (a2, .inl (cI, 144, .inl px)), (a3, .inl (cI, 9, .inl md))]
set_option maxHeartbeats 4000000 in
set_option maxRecDepth 100000 in
theorem c_tf_fillC (l : Launch) (hst : l.stackTraces = false) {D : va_G} {tys : List (ClassId × FieldType)} {cI : ClassId} (hcI : tys[0]? = some (cI, .int)) (f0 : Nat) (a1 : Nat) (c1 : Nat) (r1 : Nat) (y1 : Nat) (k1 : Nat) (j1 : Nat) (ibc : Int32) (ilc : Int32) (igl : Int32) (ibk : Int32) (ifa : Int32) (ibd : Int32) (a2 : Nat) (a3 : Nat) (px : Nat → Int32) (md : Nat → Int32) (vz : Int32) (vw : Int32) (vh : Int32) (vk : Int32) (x : Int32) (y : Int32) (v : Int32) (g : Int32) (h : Int32) (hvv : ¬ v < 0 ∧ ¬ 255 < v) (hgg : ¬ g < (-255) ∧ ¬ 255 < g) (hhh : ¬ h < (-255) ∧ ¬ 255 < h) (hno : ¬ hasP vw vh x y) : CxE l D vwCl tys y_TileForge_fill ws_TileForge_fill ({ frames := 6, cells := 1, slots := 6, locals := 81 } : Room) [.ref f0, .int x, .int y, .int v, .int g, .int h] [(f0, .inr (8, [.ref a1, .ref c1, .ref r1, .ref y1, .ref k1, .ref j1, .int ibc, .int ilc, .int igl, .int ibk, .int ifa, .int ibd])), (a1, .inr (5, [.ref a2, .ref a3, .int vz, .int vw, .int vh, .int vk])), (a2, .inl (cI, 144, .inl px)), (a3, .inl (cI, 9, .inl md))] (q_tf_fillC cI f0 a1 c1 r1 y1 k1 j1 ibc ilc igl ibk ifa ibd a2 a3 px md vz vw vh vk x y v g h) "java/lang/IndexOutOfBoundsException" 1 6 := by
  intro sz
  refine cx_ofW (cc := prog_1_method_4_code) (maxL := 9) (ret := (some .int)) (by decide) rfl ?_
  intro p e s m args below meth c s₁ B hml hv
  obtain ⟨rfl, ⟨hsz, hP, hK, hD0, hN⟩, hX⟩ := hv
  have hx := B.exec
  have hb := B.bytes
  have hr := B.returns
  have hts := atoms_spec (ws := ws_TileForge_fill) B.pre
  have hown : s.vm.findClass "TileForge" = some m.cls := findClass_of_methodNamed B.named
  have hlocks := B.notSynchronized
  subst hsz
  have hD := hD0.self (sz := s.heap.size)
  generalize hAe : va_A [(f0, .inr (8, [.ref a1, .ref c1, .ref r1, .ref y1, .ref k1, .ref j1, .int ibc, .int ilc, .int igl, .int ibk, .int ifa, .int ibd])), (a1, .inr (5, [.ref a2, .ref a3, .int vz, .int vw, .int vh, .int vk])), (a2, .inl (cI, 144, .inl px)), (a3, .inl (cI, 9, .inl md))] s.heap.size = A at hD ⊢
  have hA : ∀ q : Nat, s.heap.size ≤ q → A q := fun q h => by rw [← hAe]; exact Or.inr h
  have hS : va_S A s.heap s.heap [] := va_S.rf
  have hP : va_P D vwCl [(f0, .inr (8, [.ref a1, .ref c1, .ref r1, .ref y1, .ref k1, .ref j1, .int ibc, .int ilc, .int igl, .int ibk, .int ifa, .int ibd])), (a1, .inr (5, [.ref a2, .ref a3, .int vz, .int vw, .int vh, .int vk])), (a2, .inl (cI, 144, .inl px)), (a3, .inl (cI, 9, .inl md))] s.heap := hP
  have hP0 := hP
  have hl := lv_entry ([.ref f0, .int x, .int y, .int v, .int g, .int h]) (n := 9) (Nat.le_of_ble_eq_true rfl)
  rw [lg_entry_eq]
  generalize (lg_sl ([.ref f0, .int x, .int y, .int v, .int g, .int h]) ++ List.replicate (9 - (lg_sl ([.ref f0, .int x, .int y, .int v, .int g, .int h])).length) Slot.unset).toArray = ls at hl ⊢
  have hl : lv_has ls 9 [(0, .ref f0), (1, .int x), (2, .int y), (3, .int v), (4, .int g), (5, .int h)] := hl
  refine lv_iload_n hx hb d_TileForge_fill_0 rfl (lv_at hl 3 rfl) ?_
  refine cs_Si (As := [.int v]) (rest := []) (wr := [(f0, .inr (8, [.ref a1, .ref c1, .ref r1, .ref y1, .ref k1, .ref j1, .int ibc, .int ilc, .int igl, .int ibk, .int ifa, .int ibd])), (a1, .inr (5, [.ref a2, .ref a3, .int vz, .int vw, .int vh, .int vk])), (a2, .inl (cI, 144, .inl px)), (a3, .inl (cI, 9, .inl md))]) ⟨hx, hb, hml, hown, hts⟩ (c_isPixel l hcI v) (va_cwS 1 hts (cs_gS mw_501 mw_502 mw_139 mw_74) rfl rfl rfl hd_TileForge_isPixel ⟨Nat.le_of_ble_eq_true rfl, Nat.le_of_ble_eq_true rfl⟩) hN hK hP hD hS hA [] [0, 1, 2, 3] rfl rfl rfl rfl (by decide) rfl rfl hl.1 (Nat.le_of_ble_eq_true rfl) d_TileForge_fill_1 ⟨Nat.le_of_ble_eq_true rfl, Nat.le_of_ble_eq_true rfl⟩ (fun r1 w1 H locs hw hP hD hS => ?_)
  obtain ⟨rfl, rfl⟩ := hw
  have hP : va_P D vwCl [(f0, .inr (8, [.ref a1, .ref c1, .ref r1, .ref y1, .ref k1, .ref j1, .int ibc, .int ilc, .int igl, .int ibk, .int ifa, .int ibd])), (a1, .inr (5, [.ref a2, .ref a3, .int vz, .int vw, .int vh, .int vk])), (a2, .inl (cI, 144, .inl px)), (a3, .inl (cI, 9, .inl md))] H := hP
  have hD : va_D A [(f0, .inr (8, [.ref a1, .ref c1, .ref r1, .ref y1, .ref k1, .ref j1, .int ibc, .int ilc, .int igl, .int ibk, .int ifa, .int ibd])), (a1, .inr (5, [.ref a2, .ref a3, .int vz, .int vw, .int vh, .int vk])), (a2, .inl (cI, 144, .inl px)), (a3, .inl (cI, 9, .inl md))] := hD
  refine lv_if_eq (tgt := 23) hx hb d_TileForge_fill_4 (by decide) (fun c_4 => ?_) (fun c_4 => ?_)
  · have c_4 := cs_b0 c_4
    exact absurd hvv c_4
  · have c_4 := cs_b1 c_4
    refine lv_iload hx hb d_TileForge_fill_7 (lv_at hl 4 rfl) ?_
    refine cs_Si (As := [.int g]) (rest := []) (wr := [(f0, .inr (8, [.ref a1, .ref c1, .ref r1, .ref y1, .ref k1, .ref j1, .int ibc, .int ilc, .int igl, .int ibk, .int ifa, .int ibd])), (a1, .inr (5, [.ref a2, .ref a3, .int vz, .int vw, .int vh, .int vk])), (a2, .inl (cI, 144, .inl px)), (a3, .inl (cI, 9, .inl md))]) ⟨hx, hb, hml, hown, hts⟩ (c_isSlope l hcI g) (va_cwS 1 hts (cs_gS mw_506 mw_507 mw_139 mw_75) rfl rfl rfl hd_TileForge_isSlope ⟨Nat.le_of_ble_eq_true rfl, Nat.le_of_ble_eq_true rfl⟩) hN hK hP hD hS hA [] [0, 1, 2, 3] rfl rfl rfl rfl (by decide) rfl rfl hl.1 (Nat.le_of_ble_eq_true rfl) d_TileForge_fill_9 ⟨Nat.le_of_ble_eq_true rfl, Nat.le_of_ble_eq_true rfl⟩ (fun r2 w1 H locs hw hP hD hS => ?_)
    obtain ⟨rfl, rfl⟩ := hw
    have hP : va_P D vwCl [(f0, .inr (8, [.ref a1, .ref c1, .ref r1, .ref y1, .ref k1, .ref j1, .int ibc, .int ilc, .int igl, .int ibk, .int ifa, .int ibd])), (a1, .inr (5, [.ref a2, .ref a3, .int vz, .int vw, .int vh, .int vk])), (a2, .inl (cI, 144, .inl px)), (a3, .inl (cI, 9, .inl md))] H := hP
    have hD : va_D A [(f0, .inr (8, [.ref a1, .ref c1, .ref r1, .ref y1, .ref k1, .ref j1, .int ibc, .int ilc, .int igl, .int ibk, .int ifa, .int ibd])), (a1, .inr (5, [.ref a2, .ref a3, .int vz, .int vw, .int vh, .int vk])), (a2, .inl (cI, 144, .inl px)), (a3, .inl (cI, 9, .inl md))] := hD
    refine lv_if_eq (tgt := 23) hx hb d_TileForge_fill_12 (by decide) (fun c_12 => ?_) (fun c_12 => ?_)
    · have c_12 := cs_b0 c_12
      exact absurd hgg c_12
    · have c_12 := cs_b1 c_12
      refine lv_iload hx hb d_TileForge_fill_15 (lv_at hl 5 rfl) ?_
      refine cs_Si (As := [.int h]) (rest := []) (wr := [(f0, .inr (8, [.ref a1, .ref c1, .ref r1, .ref y1, .ref k1, .ref j1, .int ibc, .int ilc, .int igl, .int ibk, .int ifa, .int ibd])), (a1, .inr (5, [.ref a2, .ref a3, .int vz, .int vw, .int vh, .int vk])), (a2, .inl (cI, 144, .inl px)), (a3, .inl (cI, 9, .inl md))]) ⟨hx, hb, hml, hown, hts⟩ (c_isSlope l hcI h) (va_cwS 1 hts (cs_gS mw_506 mw_507 mw_139 mw_75) rfl rfl rfl hd_TileForge_isSlope ⟨Nat.le_of_ble_eq_true rfl, Nat.le_of_ble_eq_true rfl⟩) hN hK hP hD hS hA [] [0, 1, 2, 3] rfl rfl rfl rfl (by decide) rfl rfl hl.1 (Nat.le_of_ble_eq_true rfl) d_TileForge_fill_17 ⟨Nat.le_of_ble_eq_true rfl, Nat.le_of_ble_eq_true rfl⟩ (fun r3 w1 H locs hw hP hD hS => ?_)
      obtain ⟨rfl, rfl⟩ := hw
      have hP : va_P D vwCl [(f0, .inr (8, [.ref a1, .ref c1, .ref r1, .ref y1, .ref k1, .ref j1, .int ibc, .int ilc, .int igl, .int ibk, .int ifa, .int ibd])), (a1, .inr (5, [.ref a2, .ref a3, .int vz, .int vw, .int vh, .int vk])), (a2, .inl (cI, 144, .inl px)), (a3, .inl (cI, 9, .inl md))] H := hP
      have hD : va_D A [(f0, .inr (8, [.ref a1, .ref c1, .ref r1, .ref y1, .ref k1, .ref j1, .int ibc, .int ilc, .int igl, .int ibk, .int ifa, .int ibd])), (a1, .inr (5, [.ref a2, .ref a3, .int vz, .int vw, .int vh, .int vk])), (a2, .inl (cI, 144, .inl px)), (a3, .inl (cI, 9, .inl md))] := hD
      refine lv_if_ne (tgt := 31) hx hb d_TileForge_fill_20 (by decide) (fun c_20 => ?_) (fun c_20 => ?_)
      · have c_20 := cs_b1 c_20
        refine lv_aload_n hx hb d_TileForge_fill_31 rfl (lv_at hl 0 rfl) ?_
        refine va_get (D := D) (ci := 8) (v := .ref a1) (C := "TileForge") (T := T_TileForge) (N := 12) hx hb hts (cs_in in_TileForge) hown hK hP 0 rfl rfl 0 (by decide) (hts _ (cs_m mw_473)) (fun _ h9 => h9) rfl d_TileForge_fill_32 ?_
        refine lv_iload_n hx hb d_TileForge_fill_35 rfl (lv_at hl 1 rfl) ?_
        refine lv_iload_n hx hb d_TileForge_fill_36 rfl (lv_at hl 2 rfl) ?_
        refine cs_Vi (As := [.int x, .int y]) (rest := []) (wr := [(f0, .inr (8, [.ref a1, .ref c1, .ref r1, .ref y1, .ref k1, .ref j1, .int ibc, .int ilc, .int igl, .int ibk, .int ifa, .int ibd]))]) ⟨hx, hb, hml, hown, hts⟩ (c_pic_has l hcI a1 a2 a3 px md vz vw vh vk x y) (cwV 2 hts (cs_gV mw_503 mw_95 mw_96 mw_93 mw_91) rfl rfl rfl ⟨rfl, hd_Picture_has⟩ ⟨Nat.le_of_ble_eq_true rfl, Nat.le_of_ble_eq_true rfl⟩) hN hK hP hD hS hA [1, 2, 3] [0] rfl rfl rfl rfl (by decide) (ci := 5) rfl rfl rfl rfl rfl hl.1 (Nat.le_of_ble_eq_true rfl) d_TileForge_fill_37 ⟨Nat.le_of_ble_eq_true rfl, Nat.le_of_ble_eq_true rfl⟩ (fun r4 w1 H locs hw hP hD hS => ?_)
        obtain ⟨rfl, rfl⟩ := hw
        have hP : va_P D vwCl [(f0, .inr (8, [.ref a1, .ref c1, .ref r1, .ref y1, .ref k1, .ref j1, .int ibc, .int ilc, .int igl, .int ibk, .int ifa, .int ibd])), (a1, .inr (5, [.ref a2, .ref a3, .int vz, .int vw, .int vh, .int vk])), (a2, .inl (cI, 144, .inl px)), (a3, .inl (cI, 9, .inl md))] H := hP
        have hD : va_D A [(f0, .inr (8, [.ref a1, .ref c1, .ref r1, .ref y1, .ref k1, .ref j1, .int ibc, .int ilc, .int igl, .int ibk, .int ifa, .int ibd])), (a1, .inr (5, [.ref a2, .ref a3, .int vz, .int vw, .int vh, .int vk])), (a2, .inl (cI, 144, .inl px)), (a3, .inl (cI, 9, .inl md))] := hD
        refine lv_if_ne (tgt := 51) hx hb d_TileForge_fill_40 (by decide) (fun c_40 => ?_) (fun c_40 => ?_)
        · have c_40 := cs_b1 c_40
          exact absurd c_40 hno
        · have c_40 := cs_b0 c_40
          exact cx_thr (ix := 61) (ic := 63) (E := "java/lang/IndexOutOfBoundsException") (post := (q_tf_fillC cI f0 a1 c1 r1 y1 k1 j1 ibc ilc igl ibk ifa ibd a2 a3 px md vz vw vh vk x y v g h)) hx hb hst (hl.1.trans hml.symm) B.named hts hown hX hP0 hAe mw_570 mw_571 mw_572 oa_IOB fi_IOB hK hP hD hS hlocks (Nat.le_of_ble_eq_true rfl) (Nat.le_of_ble_eq_true rfl) (Nat.le_of_ble_eq_true rfl) (Nat.le_of_ble_eq_true rfl) (Nat.le_of_ble_eq_true rfl) (Nat.le_of_ble_eq_true rfl) d_TileForge_fill_43 d_TileForge_fill_46 d_TileForge_fill_47 d_TileForge_fill_50  (show _ = _ from rfl)
      · have c_20 := cs_b0 c_20
        exact absurd hhh c_20
def q_tf_encodeB (cI : ClassId) (f0 : Nat) (a1 : Nat) (c1 : Nat) (r1 : Nat) (y1 : Nat) (k1 : Nat) (j1 : Nat) (ibc : Int32) (ilc : Int32) (igl : Int32) (ibk : Int32) (ifa : Int32) (ibd : Int32) (q : Int32) : va_W → Prop := fun ww => ww = [(f0, .inr (8, [.ref a1, .ref c1, .ref r1, .ref y1, .ref k1, .ref j1, .int ibc, .int ilc, .int igl, .int ibk, .int ifa, .int ibd]))]
set_option maxHeartbeats 4000000 in
set_option maxRecDepth 100000 in
theorem c_tf_encodeB (l : Launch) (hst : l.stackTraces = false) {D : va_G} {tys : List (ClassId × FieldType)} {cI : ClassId} (hcI : tys[0]? = some (cI, .int)) (f0 : Nat) (a1 : Nat) (c1 : Nat) (r1 : Nat) (y1 : Nat) (k1 : Nat) (j1 : Nat) (ibc : Int32) (ilc : Int32) (igl : Int32) (ibk : Int32) (ifa : Int32) (ibd : Int32) (q : Int32) (hq : ¬ coarP q) : CxE l D vwCl tys y_TileForge_encode ws_TileForge_encode ({ frames := 6, cells := 1, slots := 6, locals := 81 } : Room) [.ref f0, .int q] [(f0, .inr (8, [.ref a1, .ref c1, .ref r1, .ref y1, .ref k1, .ref j1, .int ibc, .int ilc, .int igl, .int ibk, .int ifa, .int ibd]))] (q_tf_encodeB cI f0 a1 c1 r1 y1 k1 j1 ibc ilc igl ibk ifa ibd q) "java/lang/IllegalArgumentException" 1 6 := by
  intro sz
  refine cx_ofW (cc := prog_1_method_5_code) (maxL := 2) (ret := (some .int)) (by decide) rfl ?_
  intro p e s m args below meth c s₁ B hml hv
  obtain ⟨rfl, ⟨hsz, hP, hK, hD0, hN⟩, hX⟩ := hv
  have hx := B.exec
  have hb := B.bytes
  have hr := B.returns
  have hts := atoms_spec (ws := ws_TileForge_encode) B.pre
  have hown : s.vm.findClass "TileForge" = some m.cls := findClass_of_methodNamed B.named
  have hlocks := B.notSynchronized
  subst hsz
  have hD := hD0.self (sz := s.heap.size)
  generalize hAe : va_A [(f0, .inr (8, [.ref a1, .ref c1, .ref r1, .ref y1, .ref k1, .ref j1, .int ibc, .int ilc, .int igl, .int ibk, .int ifa, .int ibd]))] s.heap.size = A at hD ⊢
  have hA : ∀ q : Nat, s.heap.size ≤ q → A q := fun q h => by rw [← hAe]; exact Or.inr h
  have hS : va_S A s.heap s.heap [] := va_S.rf
  have hP : va_P D vwCl [(f0, .inr (8, [.ref a1, .ref c1, .ref r1, .ref y1, .ref k1, .ref j1, .int ibc, .int ilc, .int igl, .int ibk, .int ifa, .int ibd]))] s.heap := hP
  have hP0 := hP
  have hl := lv_entry ([.ref f0, .int q]) (n := 2) (Nat.le_of_ble_eq_true rfl)
  rw [lg_entry_eq]
  generalize (lg_sl ([.ref f0, .int q]) ++ List.replicate (2 - (lg_sl ([.ref f0, .int q])).length) Slot.unset).toArray = ls at hl ⊢
  have hl : lv_has ls 2 [(0, .ref f0), (1, .int q)] := hl
  refine lv_iload_n hx hb d_TileForge_encode_0 rfl (lv_at hl 1 rfl) ?_
  refine cs_Si (As := [.int q]) (rest := []) (wr := [(f0, .inr (8, [.ref a1, .ref c1, .ref r1, .ref y1, .ref k1, .ref j1, .int ibc, .int ilc, .int igl, .int ibk, .int ifa, .int ibd]))]) ⟨hx, hb, hml, hown, hts⟩ (c_isCoarseness l hcI q) (va_cwS 1 hts (cs_gS mw_547 mw_141 mw_139 mw_76) rfl rfl rfl hd_TileForge_isCoarseness ⟨Nat.le_of_ble_eq_true rfl, Nat.le_of_ble_eq_true rfl⟩) hN hK hP hD hS hA [] [0] rfl rfl rfl rfl (by decide) rfl rfl hl.1 (Nat.le_of_ble_eq_true rfl) d_TileForge_encode_1 ⟨Nat.le_of_ble_eq_true rfl, Nat.le_of_ble_eq_true rfl⟩ (fun r1 w1 H locs hw hP hD hS => ?_)
  obtain ⟨rfl, rfl⟩ := hw
  have hP : va_P D vwCl [(f0, .inr (8, [.ref a1, .ref c1, .ref r1, .ref y1, .ref k1, .ref j1, .int ibc, .int ilc, .int igl, .int ibk, .int ifa, .int ibd]))] H := hP
  have hD : va_D A [(f0, .inr (8, [.ref a1, .ref c1, .ref r1, .ref y1, .ref k1, .ref j1, .int ibc, .int ilc, .int igl, .int ibk, .int ifa, .int ibd]))] := hD
  refine lv_if_ne (tgt := 15) hx hb d_TileForge_encode_4 (by decide) (fun c_4 => ?_) (fun c_4 => ?_)
  · have c_4 := cs_b1 c_4
    exact absurd c_4 hq
  · have c_4 := cs_b0 c_4
    exact cx_thr (ix := 51) (ic := 53) (E := "java/lang/IllegalArgumentException") (post := (q_tf_encodeB cI f0 a1 c1 r1 y1 k1 j1 ibc ilc igl ibk ifa ibd q)) hx hb hst (hl.1.trans hml.symm) B.named hts hown hX hP0 hAe mw_567 mw_568 mw_569 oa_IAE fi_IAE hK hP hD hS hlocks (Nat.le_of_ble_eq_true rfl) (Nat.le_of_ble_eq_true rfl) (Nat.le_of_ble_eq_true rfl) (Nat.le_of_ble_eq_true rfl) (Nat.le_of_ble_eq_true rfl) (Nat.le_of_ble_eq_true rfl) d_TileForge_encode_7 d_TileForge_encode_10 d_TileForge_encode_11 d_TileForge_encode_14  (show _ = _ from rfl)
theorem mw_573 : (.classLink "TileForge" 116 "java/lang/UnsupportedOperationException" : Cond) ∈ GW := List.mem_filter.mpr ⟨(List.mem_append_right _ (List.mem_append_right _ (List.mem_append_right _ (List.mem_append_left _ (List.mem_of_getElem? (i := 63) rfl))))), rfl⟩
theorem mw_574 : (.instantiable "java/lang/UnsupportedOperationException" 6 : Cond) ∈ GW := List.mem_filter.mpr ⟨(List.mem_append_right _ (List.mem_append_right _ (List.mem_append_right _ (List.mem_append_left _ (List.mem_of_getElem? (i := 64) rfl))))), rfl⟩
theorem mw_575 : (.initialized "java/lang/UnsupportedOperationException" : Cond) ∈ GW := List.mem_filter.mpr ⟨(List.mem_append_right _ (List.mem_append_left _ (List.mem_of_getElem? (i := 19) rfl))), rfl⟩
def q_tf_decodeB (cI : ClassId) (f0 : Nat) (a1 : Nat) (c1 : Nat) (r1 : Nat) (y1 : Nat) (k1 : Nat) (j1 : Nat) (ibc : Int32) (ilc : Int32) (igl : Int32) (ibk : Int32) (ifa : Int32) (ibd : Int32) (y2 : Nat) (yt : Nat → Int32) (yl : Nat) (yp : Nat) : va_W → Prop := fun ww => ww = [(f0, .inr (8, [.ref a1, .ref c1, .ref r1, .ref y1, .ref k1, .ref j1, .int ibc, .int ilc, .int igl, .int ibk, .int ifa, .int ibd])), (y1, .inr (2, [.ref y2, .int (nI yl), .int (nI yp)])), (y2, .inl (cI, 400, .inl yt))]
set_option maxHeartbeats 4000000 in
set_option maxRecDepth 100000 in
theorem c_tf_decodeB (l : Launch) (hst : l.stackTraces = false) {D : va_G} {tys : List (ClassId × FieldType)} {cI : ClassId} (hcI : tys[0]? = some (cI, .int)) (f0 : Nat) (a1 : Nat) (c1 : Nat) (r1 : Nat) (y1 : Nat) (k1 : Nat) (j1 : Nat) (ibc : Int32) (ilc : Int32) (igl : Int32) (ibk : Int32) (ifa : Int32) (ibd : Int32) (y2 : Nat) (yt : Nat → Int32) (yl : Nat) (yp : Nat) (hbad : ¬ (¬ nI yl < 3 ∧ sideP (yt 0 * 4) ∧ sideP (yt 1 * 4) ∧ coarP (yt 2))) : CxE l D vwCl tys y_TileForge_decode ws_TileForge_decode ({ frames := 6, cells := 1, slots := 6, locals := 81 } : Room) [.ref f0] [(f0, .inr (8, [.ref a1, .ref c1, .ref r1, .ref y1, .ref k1, .ref j1, .int ibc, .int ilc, .int igl, .int ibk, .int ifa, .int ibd])), (y1, .inr (2, [.ref y2, .int (nI yl), .int (nI yp)])), (y2, .inl (cI, 400, .inl yt))] (q_tf_decodeB cI f0 a1 c1 r1 y1 k1 j1 ibc ilc igl ibk ifa ibd y2 yt yl yp) "java/lang/UnsupportedOperationException" 1 6 := by
  intro sz
  refine cx_ofW (cc := prog_1_method_6_code) (maxL := 1) (ret := (some .int)) (by decide) rfl ?_
  intro p e s m args below meth c s₁ B hml hv
  obtain ⟨rfl, ⟨hsz, hP, hK, hD0, hN⟩, hX⟩ := hv
  have hx := B.exec
  have hb := B.bytes
  have hr := B.returns
  have hts := atoms_spec (ws := ws_TileForge_decode) B.pre
  have hown : s.vm.findClass "TileForge" = some m.cls := findClass_of_methodNamed B.named
  have hlocks := B.notSynchronized
  subst hsz
  have hD := hD0.self (sz := s.heap.size)
  generalize hAe : va_A [(f0, .inr (8, [.ref a1, .ref c1, .ref r1, .ref y1, .ref k1, .ref j1, .int ibc, .int ilc, .int igl, .int ibk, .int ifa, .int ibd])), (y1, .inr (2, [.ref y2, .int (nI yl), .int (nI yp)])), (y2, .inl (cI, 400, .inl yt))] s.heap.size = A at hD ⊢
  have hA : ∀ q : Nat, s.heap.size ≤ q → A q := fun q h => by rw [← hAe]; exact Or.inr h
  have hS : va_S A s.heap s.heap [] := va_S.rf
  have hP : va_P D vwCl [(f0, .inr (8, [.ref a1, .ref c1, .ref r1, .ref y1, .ref k1, .ref j1, .int ibc, .int ilc, .int igl, .int ibk, .int ifa, .int ibd])), (y1, .inr (2, [.ref y2, .int (nI yl), .int (nI yp)])), (y2, .inl (cI, 400, .inl yt))] s.heap := hP
  have hP0 := hP
  have hl := lv_entry ([.ref f0]) (n := 1) (Nat.le_of_ble_eq_true rfl)
  rw [lg_entry_eq]
  generalize (lg_sl ([.ref f0]) ++ List.replicate (1 - (lg_sl ([.ref f0])).length) Slot.unset).toArray = ls at hl ⊢
  have hl : lv_has ls 1 [(0, .ref f0)] := hl
  refine lv_aload_n hx hb d_TileForge_decode_0 rfl (lv_at hl 0 rfl) ?_
  refine va_get (D := D) (ci := 8) (v := .ref y1) (C := "TileForge") (T := T_TileForge) (N := 12) hx hb hts (cs_in in_TileForge) hown hK hP 0 rfl rfl 3 (by decide) (hts _ (cs_m mw_486)) (fun _ h9 => h9) rfl d_TileForge_decode_1 ?_
  refine cs_Vi (As := []) (rest := []) (wr := [(f0, .inr (8, [.ref a1, .ref c1, .ref r1, .ref y1, .ref k1, .ref j1, .int ibc, .int ilc, .int igl, .int ibk, .int ifa, .int ibd]))]) ⟨hx, hb, hml, hown, hts⟩ (c_br_good l hcI y1 y2 yt yl yp) (cwV 0 hts (cs_gV mw_537 mw_538 mw_539 mw_133 mw_138) rfl rfl rfl ⟨rfl, hd_ByteRow_hasGoodHead⟩ ⟨Nat.le_of_ble_eq_true rfl, Nat.le_of_ble_eq_true rfl⟩) hN hK hP hD hS hA [1, 2] [0] rfl rfl rfl rfl (by decide) (ci := 2) rfl rfl rfl rfl rfl hl.1 (Nat.le_of_ble_eq_true rfl) d_TileForge_decode_4 ⟨Nat.le_of_ble_eq_true rfl, Nat.le_of_ble_eq_true rfl⟩ (fun r1 w1 H locs hw hP hD hS => ?_)
  obtain ⟨rfl, rfl⟩ := hw
  have hP : va_P D vwCl [(f0, .inr (8, [.ref a1, .ref c1, .ref r1, .ref y1, .ref k1, .ref j1, .int ibc, .int ilc, .int igl, .int ibk, .int ifa, .int ibd])), (y1, .inr (2, [.ref y2, .int (nI yl), .int (nI yp)])), (y2, .inl (cI, 400, .inl yt))] H := hP
  have hD : va_D A [(f0, .inr (8, [.ref a1, .ref c1, .ref r1, .ref y1, .ref k1, .ref j1, .int ibc, .int ilc, .int igl, .int ibk, .int ifa, .int ibd])), (y1, .inr (2, [.ref y2, .int (nI yl), .int (nI yp)])), (y2, .inl (cI, 400, .inl yt))] := hD
  refine lv_if_ne (tgt := 18) hx hb d_TileForge_decode_7 (by decide) (fun c_7 => ?_) (fun c_7 => ?_)
  · have c_7 := cs_b1 c_7
    exact absurd c_7 hbad
  · have c_7 := cs_b0 c_7
    exact cx_thr (ix := 116) (ic := 118) (E := "java/lang/UnsupportedOperationException") (post := (q_tf_decodeB cI f0 a1 c1 r1 y1 k1 j1 ibc ilc igl ibk ifa ibd y2 yt yl yp)) hx hb hst (hl.1.trans hml.symm) B.named hts hown hX hP0 hAe mw_573 mw_574 mw_575 oa_UOE fi_UOE hK hP hD hS hlocks (Nat.le_of_ble_eq_true rfl) (Nat.le_of_ble_eq_true rfl) (Nat.le_of_ble_eq_true rfl) (Nat.le_of_ble_eq_true rfl) (Nat.le_of_ble_eq_true rfl) (Nat.le_of_ble_eq_true rfl) d_TileForge_decode_10 d_TileForge_decode_13 d_TileForge_decode_14 d_TileForge_decode_17  (show _ = _ from rfl)
def q_tf_streamB (cI : ClassId) (f0 : Nat) (a1 : Nat) (c1 : Nat) (r1 : Nat) (y1 : Nat) (k1 : Nat) (j1 : Nat) (ibc : Int32) (ilc : Int32) (igl : Int32) (ibk : Int32) (ifa : Int32) (ibd : Int32) (y2 : Nat) (yt : Nat → Int32) (yl : Nat) (yp : Nat) (k : Int32) : va_W → Prop := fun ww => ww = [(f0, .inr (8, [.ref a1, .ref c1, .ref r1, .ref y1, .ref k1, .ref j1, .int ibc, .int ilc, .int igl, .int ibk, .int ifa, .int ibd])), (y1, .inr (2, [.ref y2, .int (nI yl), .int (nI yp)])), (y2, .inl (cI, 400, .inl yt))]
set_option maxHeartbeats 4000000 in
set_option maxRecDepth 100000 in
theorem c_tf_streamB (l : Launch) (hst : l.stackTraces = false) {D : va_G} {tys : List (ClassId × FieldType)} {cI : ClassId} (hcI : tys[0]? = some (cI, .int)) (f0 : Nat) (a1 : Nat) (c1 : Nat) (r1 : Nat) (y1 : Nat) (k1 : Nat) (j1 : Nat) (ibc : Int32) (ilc : Int32) (igl : Int32) (ibk : Int32) (ifa : Int32) (ibd : Int32) (y2 : Nat) (yt : Nat → Int32) (yl : Nat) (yp : Nat) (k : Int32) (hk1 : ¬ k = (-1)) (hbad : ¬ (¬ k < 0 ∧ ¬ nI yl ≤ k ∧ ¬ 400 ≤ k)) : CxE l D vwCl tys y_TileForge_stream ws_TileForge_stream ({ frames := 6, cells := 1, slots := 6, locals := 81 } : Room) [.ref f0, .int k] [(f0, .inr (8, [.ref a1, .ref c1, .ref r1, .ref y1, .ref k1, .ref j1, .int ibc, .int ilc, .int igl, .int ibk, .int ifa, .int ibd])), (y1, .inr (2, [.ref y2, .int (nI yl), .int (nI yp)])), (y2, .inl (cI, 400, .inl yt))] (q_tf_streamB cI f0 a1 c1 r1 y1 k1 j1 ibc ilc igl ibk ifa ibd y2 yt yl yp k) "java/lang/IndexOutOfBoundsException" 1 6 := by
  intro sz
  refine cx_ofW (cc := prog_1_method_7_code) (maxL := 2) (ret := (some .int)) (by decide) rfl ?_
  intro p e s m args below meth c s₁ B hml hv
  obtain ⟨rfl, ⟨hsz, hP, hK, hD0, hN⟩, hX⟩ := hv
  have hx := B.exec
  have hb := B.bytes
  have hr := B.returns
  have hts := atoms_spec (ws := ws_TileForge_stream) B.pre
  have hown : s.vm.findClass "TileForge" = some m.cls := findClass_of_methodNamed B.named
  have hlocks := B.notSynchronized
  subst hsz
  have hD := hD0.self (sz := s.heap.size)
  generalize hAe : va_A [(f0, .inr (8, [.ref a1, .ref c1, .ref r1, .ref y1, .ref k1, .ref j1, .int ibc, .int ilc, .int igl, .int ibk, .int ifa, .int ibd])), (y1, .inr (2, [.ref y2, .int (nI yl), .int (nI yp)])), (y2, .inl (cI, 400, .inl yt))] s.heap.size = A at hD ⊢
  have hA : ∀ q : Nat, s.heap.size ≤ q → A q := fun q h => by rw [← hAe]; exact Or.inr h
  have hS : va_S A s.heap s.heap [] := va_S.rf
  have hP : va_P D vwCl [(f0, .inr (8, [.ref a1, .ref c1, .ref r1, .ref y1, .ref k1, .ref j1, .int ibc, .int ilc, .int igl, .int ibk, .int ifa, .int ibd])), (y1, .inr (2, [.ref y2, .int (nI yl), .int (nI yp)])), (y2, .inl (cI, 400, .inl yt))] s.heap := hP
  have hP0 := hP
  have hl := lv_entry ([.ref f0, .int k]) (n := 2) (Nat.le_of_ble_eq_true rfl)
  rw [lg_entry_eq]
  generalize (lg_sl ([.ref f0, .int k]) ++ List.replicate (2 - (lg_sl ([.ref f0, .int k])).length) Slot.unset).toArray = ls at hl ⊢
  have hl : lv_has ls 2 [(0, .ref f0), (1, .int k)] := hl
  refine lv_iload_n hx hb d_TileForge_stream_0 rfl (lv_at hl 1 rfl) ?_
  refine lv_iconst (v := (-1)) hx hb d_TileForge_stream_1 (by decide) ?_
  refine lv_icmp_ne (tgt := 13) hx hb d_TileForge_stream_2 (by decide) (fun c_2 => ?_) (fun c_2 => ?_)
  · refine lv_aload_n hx hb d_TileForge_stream_13 rfl (lv_at hl 0 rfl) ?_
    refine va_get (D := D) (ci := 8) (v := .ref y1) (C := "TileForge") (T := T_TileForge) (N := 12) hx hb hts (cs_in in_TileForge) hown hK hP 0 rfl rfl 3 (by decide) (hts _ (cs_m mw_486)) (fun _ h9 => h9) rfl d_TileForge_stream_14 ?_
    refine lv_iload_n hx hb d_TileForge_stream_17 rfl (lv_at hl 1 rfl) ?_
    refine cs_Vi (As := [.int k]) (rest := []) (wr := [(f0, .inr (8, [.ref a1, .ref c1, .ref r1, .ref y1, .ref k1, .ref j1, .int ibc, .int ilc, .int igl, .int ibk, .int ifa, .int ibd]))]) ⟨hx, hb, hml, hown, hts⟩ (c_br_has l hcI y1 y2 yt yl yp k) (cwV 1 hts (cs_gV mw_511 mw_512 mw_513 mw_133 mw_127) rfl rfl rfl ⟨rfl, hd_ByteRow_has⟩ ⟨Nat.le_of_ble_eq_true rfl, Nat.le_of_ble_eq_true rfl⟩) hN hK hP hD hS hA [1, 2] [0] rfl rfl rfl rfl (by decide) (ci := 2) rfl rfl rfl rfl rfl hl.1 (Nat.le_of_ble_eq_true rfl) d_TileForge_stream_18 ⟨Nat.le_of_ble_eq_true rfl, Nat.le_of_ble_eq_true rfl⟩ (fun r1 w1 H locs hw hP hD hS => ?_)
    obtain ⟨rfl, rfl⟩ := hw
    have hP : va_P D vwCl [(f0, .inr (8, [.ref a1, .ref c1, .ref r1, .ref y1, .ref k1, .ref j1, .int ibc, .int ilc, .int igl, .int ibk, .int ifa, .int ibd])), (y1, .inr (2, [.ref y2, .int (nI yl), .int (nI yp)])), (y2, .inl (cI, 400, .inl yt))] H := hP
    have hD : va_D A [(f0, .inr (8, [.ref a1, .ref c1, .ref r1, .ref y1, .ref k1, .ref j1, .int ibc, .int ilc, .int igl, .int ibk, .int ifa, .int ibd])), (y1, .inr (2, [.ref y2, .int (nI yl), .int (nI yp)])), (y2, .inl (cI, 400, .inl yt))] := hD
    refine lv_if_ne (tgt := 32) hx hb d_TileForge_stream_21 (by decide) (fun c_21 => ?_) (fun c_21 => ?_)
    · have c_21 := cs_b1 c_21
      exact absurd c_21 hbad
    · have c_21 := cs_b0 c_21
      exact cx_thr (ix := 61) (ic := 63) (E := "java/lang/IndexOutOfBoundsException") (post := (q_tf_streamB cI f0 a1 c1 r1 y1 k1 j1 ibc ilc igl ibk ifa ibd y2 yt yl yp k)) hx hb hst (hl.1.trans hml.symm) B.named hts hown hX hP0 hAe mw_570 mw_571 mw_572 oa_IOB fi_IOB hK hP hD hS hlocks (Nat.le_of_ble_eq_true rfl) (Nat.le_of_ble_eq_true rfl) (Nat.le_of_ble_eq_true rfl) (Nat.le_of_ble_eq_true rfl) (Nat.le_of_ble_eq_true rfl) (Nat.le_of_ble_eq_true rfl) d_TileForge_stream_24 d_TileForge_stream_27 d_TileForge_stream_28 d_TileForge_stream_31  (show _ = _ from rfl)
  · exact absurd c_2 hk1
def q_tf_damageB (cI : ClassId) (f0 : Nat) (a1 : Nat) (c1 : Nat) (r1 : Nat) (y1 : Nat) (k1 : Nat) (j1 : Nat) (ibc : Int32) (ilc : Int32) (igl : Int32) (ibk : Int32) (ifa : Int32) (ibd : Int32) (k : Int32) (b : Int32) : va_W → Prop := fun ww => ww = [(f0, .inr (8, [.ref a1, .ref c1, .ref r1, .ref y1, .ref k1, .ref j1, .int ibc, .int ilc, .int igl, .int ibk, .int ifa, .int ibd]))]
set_option maxHeartbeats 4000000 in
set_option maxRecDepth 100000 in
theorem c_tf_damageB (l : Launch) (hst : l.stackTraces = false) {D : va_G} {tys : List (ClassId × FieldType)} {cI : ClassId} (hcI : tys[0]? = some (cI, .int)) (f0 : Nat) (a1 : Nat) (c1 : Nat) (r1 : Nat) (y1 : Nat) (k1 : Nat) (j1 : Nat) (ibc : Int32) (ilc : Int32) (igl : Int32) (ibk : Int32) (ifa : Int32) (ibd : Int32) (k : Int32) (b : Int32) (hbb : ¬ (¬ b < 0 ∧ ¬ 255 < b)) : CxE l D vwCl tys y_TileForge_damage ws_TileForge_damage ({ frames := 6, cells := 1, slots := 6, locals := 81 } : Room) [.ref f0, .int k, .int b] [(f0, .inr (8, [.ref a1, .ref c1, .ref r1, .ref y1, .ref k1, .ref j1, .int ibc, .int ilc, .int igl, .int ibk, .int ifa, .int ibd]))] (q_tf_damageB cI f0 a1 c1 r1 y1 k1 j1 ibc ilc igl ibk ifa ibd k b) "java/lang/IllegalArgumentException" 1 6 := by
  intro sz
  refine cx_ofW (cc := prog_1_method_8_code) (maxL := 4) (ret := (some .int)) (by decide) rfl ?_
  intro p e s m args below meth c s₁ B hml hv
  obtain ⟨rfl, ⟨hsz, hP, hK, hD0, hN⟩, hX⟩ := hv
  have hx := B.exec
  have hb := B.bytes
  have hr := B.returns
  have hts := atoms_spec (ws := ws_TileForge_damage) B.pre
  have hown : s.vm.findClass "TileForge" = some m.cls := findClass_of_methodNamed B.named
  have hlocks := B.notSynchronized
  subst hsz
  have hD := hD0.self (sz := s.heap.size)
  generalize hAe : va_A [(f0, .inr (8, [.ref a1, .ref c1, .ref r1, .ref y1, .ref k1, .ref j1, .int ibc, .int ilc, .int igl, .int ibk, .int ifa, .int ibd]))] s.heap.size = A at hD ⊢
  have hA : ∀ q : Nat, s.heap.size ≤ q → A q := fun q h => by rw [← hAe]; exact Or.inr h
  have hS : va_S A s.heap s.heap [] := va_S.rf
  have hP : va_P D vwCl [(f0, .inr (8, [.ref a1, .ref c1, .ref r1, .ref y1, .ref k1, .ref j1, .int ibc, .int ilc, .int igl, .int ibk, .int ifa, .int ibd]))] s.heap := hP
  have hP0 := hP
  have hl := lv_entry ([.ref f0, .int k, .int b]) (n := 4) (Nat.le_of_ble_eq_true rfl)
  rw [lg_entry_eq]
  generalize (lg_sl ([.ref f0, .int k, .int b]) ++ List.replicate (4 - (lg_sl ([.ref f0, .int k, .int b])).length) Slot.unset).toArray = ls at hl ⊢
  have hl : lv_has ls 4 [(0, .ref f0), (1, .int k), (2, .int b)] := hl
  refine lv_iload_n hx hb d_TileForge_damage_0 rfl (lv_at hl 2 rfl) ?_
  refine lv_if_lt (tgt := 11) hx hb d_TileForge_damage_1 (by decide) (fun c_1 => ?_) (fun c_1 => ?_)
  · exact cx_thr (ix := 51) (ic := 53) (E := "java/lang/IllegalArgumentException") (post := (q_tf_damageB cI f0 a1 c1 r1 y1 k1 j1 ibc ilc igl ibk ifa ibd k b)) hx hb hst (hl.1.trans hml.symm) B.named hts hown hX hP0 hAe mw_567 mw_568 mw_569 oa_IAE fi_IAE hK hP hD hS hlocks (Nat.le_of_ble_eq_true rfl) (Nat.le_of_ble_eq_true rfl) (Nat.le_of_ble_eq_true rfl) (Nat.le_of_ble_eq_true rfl) (Nat.le_of_ble_eq_true rfl) (Nat.le_of_ble_eq_true rfl) d_TileForge_damage_11 d_TileForge_damage_14 d_TileForge_damage_15 d_TileForge_damage_18  (show _ = _ from rfl)
  · refine lv_iload_n hx hb d_TileForge_damage_4 rfl (lv_at hl 2 rfl) ?_
    refine lv_sipush (v := 255) hx hb d_TileForge_damage_5 (by decide) ?_
    refine lv_icmp_le (tgt := 19) hx hb d_TileForge_damage_8 (by decide) (fun c_8 => ?_) (fun c_8 => ?_)
    · exact absurd (⟨c_1, Int32.not_lt.mpr c_8⟩ : ¬ b < 0 ∧ ¬ 255 < b) hbb
    · exact cx_thr (ix := 51) (ic := 53) (E := "java/lang/IllegalArgumentException") (post := (q_tf_damageB cI f0 a1 c1 r1 y1 k1 j1 ibc ilc igl ibk ifa ibd k b)) hx hb hst (hl.1.trans hml.symm) B.named hts hown hX hP0 hAe mw_567 mw_568 mw_569 oa_IAE fi_IAE hK hP hD hS hlocks (Nat.le_of_ble_eq_true rfl) (Nat.le_of_ble_eq_true rfl) (Nat.le_of_ble_eq_true rfl) (Nat.le_of_ble_eq_true rfl) (Nat.le_of_ble_eq_true rfl) (Nat.le_of_ble_eq_true rfl) d_TileForge_damage_11 d_TileForge_damage_14 d_TileForge_damage_15 d_TileForge_damage_18  (show _ = _ from rfl)
def q_tf_damageC (cI : ClassId) (f0 : Nat) (a1 : Nat) (c1 : Nat) (r1 : Nat) (y1 : Nat) (k1 : Nat) (j1 : Nat) (ibc : Int32) (ilc : Int32) (igl : Int32) (ibk : Int32) (ifa : Int32) (ibd : Int32) (y2 : Nat) (yt : Nat → Int32) (yl : Nat) (yp : Nat) (k : Int32) (b : Int32) : va_W → Prop := fun ww => ww = [(f0, .inr (8, [.ref a1, .ref c1, .ref r1, .ref y1, .ref k1, .ref j1, .int ibc, .int ilc, .int igl, .int ibk, .int ifa, .int ibd])), (y1, .inr (2, [.ref y2, .int (nI yl), .int (nI yp)])), (y2, .inl (cI, 400, .inl yt))]
set_option maxHeartbeats 4000000 in
set_option maxRecDepth 100000 in
theorem c_tf_damageC (l : Launch) (hst : l.stackTraces = false) {D : va_G} {tys : List (ClassId × FieldType)} {cI : ClassId} (hcI : tys[0]? = some (cI, .int)) (f0 : Nat) (a1 : Nat) (c1 : Nat) (r1 : Nat) (y1 : Nat) (k1 : Nat) (j1 : Nat) (ibc : Int32) (ilc : Int32) (igl : Int32) (ibk : Int32) (ifa : Int32) (ibd : Int32) (y2 : Nat) (yt : Nat → Int32) (yl : Nat) (yp : Nat) (k : Int32) (b : Int32) (hbb : ¬ b < 0 ∧ ¬ 255 < b) (hbad : ¬ (¬ k < 0 ∧ ¬ nI yl < k ∧ k < 400)) : CxE l D vwCl tys y_TileForge_damage ws_TileForge_damage ({ frames := 6, cells := 1, slots := 6, locals := 81 } : Room) [.ref f0, .int k, .int b] [(f0, .inr (8, [.ref a1, .ref c1, .ref r1, .ref y1, .ref k1, .ref j1, .int ibc, .int ilc, .int igl, .int ibk, .int ifa, .int ibd])), (y1, .inr (2, [.ref y2, .int (nI yl), .int (nI yp)])), (y2, .inl (cI, 400, .inl yt))] (q_tf_damageC cI f0 a1 c1 r1 y1 k1 j1 ibc ilc igl ibk ifa ibd y2 yt yl yp k b) "java/lang/IndexOutOfBoundsException" 1 6 := by
  intro sz
  refine cx_ofW (cc := prog_1_method_8_code) (maxL := 4) (ret := (some .int)) (by decide) rfl ?_
  intro p e s m args below meth c s₁ B hml hv
  obtain ⟨rfl, ⟨hsz, hP, hK, hD0, hN⟩, hX⟩ := hv
  have hx := B.exec
  have hb := B.bytes
  have hr := B.returns
  have hts := atoms_spec (ws := ws_TileForge_damage) B.pre
  have hown : s.vm.findClass "TileForge" = some m.cls := findClass_of_methodNamed B.named
  have hlocks := B.notSynchronized
  subst hsz
  have hD := hD0.self (sz := s.heap.size)
  generalize hAe : va_A [(f0, .inr (8, [.ref a1, .ref c1, .ref r1, .ref y1, .ref k1, .ref j1, .int ibc, .int ilc, .int igl, .int ibk, .int ifa, .int ibd])), (y1, .inr (2, [.ref y2, .int (nI yl), .int (nI yp)])), (y2, .inl (cI, 400, .inl yt))] s.heap.size = A at hD ⊢
  have hA : ∀ q : Nat, s.heap.size ≤ q → A q := fun q h => by rw [← hAe]; exact Or.inr h
  have hS : va_S A s.heap s.heap [] := va_S.rf
  have hP : va_P D vwCl [(f0, .inr (8, [.ref a1, .ref c1, .ref r1, .ref y1, .ref k1, .ref j1, .int ibc, .int ilc, .int igl, .int ibk, .int ifa, .int ibd])), (y1, .inr (2, [.ref y2, .int (nI yl), .int (nI yp)])), (y2, .inl (cI, 400, .inl yt))] s.heap := hP
  have hP0 := hP
  have hl := lv_entry ([.ref f0, .int k, .int b]) (n := 4) (Nat.le_of_ble_eq_true rfl)
  rw [lg_entry_eq]
  generalize (lg_sl ([.ref f0, .int k, .int b]) ++ List.replicate (4 - (lg_sl ([.ref f0, .int k, .int b])).length) Slot.unset).toArray = ls at hl ⊢
  have hl : lv_has ls 4 [(0, .ref f0), (1, .int k), (2, .int b)] := hl
  refine lv_iload_n hx hb d_TileForge_damage_0 rfl (lv_at hl 2 rfl) ?_
  refine lv_if_lt (tgt := 11) hx hb d_TileForge_damage_1 (by decide) (fun c_1 => ?_) (fun c_1 => ?_)
  · exact absurd c_1 hbb.1
  · refine lv_iload_n hx hb d_TileForge_damage_4 rfl (lv_at hl 2 rfl) ?_
    refine lv_sipush (v := 255) hx hb d_TileForge_damage_5 (by decide) ?_
    refine lv_icmp_le (tgt := 19) hx hb d_TileForge_damage_8 (by decide) (fun c_8 => ?_) (fun c_8 => ?_)
    · refine lv_iload_n hx hb d_TileForge_damage_19 rfl (lv_at hl 1 rfl) ?_
      refine lv_if_lt (tgt := 41) hx hb d_TileForge_damage_20 (by decide) (fun c_20 => ?_) (fun c_20 => ?_)
      · exact cx_thr (ix := 61) (ic := 63) (E := "java/lang/IndexOutOfBoundsException") (post := (q_tf_damageC cI f0 a1 c1 r1 y1 k1 j1 ibc ilc igl ibk ifa ibd y2 yt yl yp k b)) hx hb hst (hl.1.trans hml.symm) B.named hts hown hX hP0 hAe mw_570 mw_571 mw_572 oa_IOB fi_IOB hK hP hD hS hlocks (Nat.le_of_ble_eq_true rfl) (Nat.le_of_ble_eq_true rfl) (Nat.le_of_ble_eq_true rfl) (Nat.le_of_ble_eq_true rfl) (Nat.le_of_ble_eq_true rfl) (Nat.le_of_ble_eq_true rfl) d_TileForge_damage_41 d_TileForge_damage_44 d_TileForge_damage_45 d_TileForge_damage_48  (show _ = _ from rfl)
      · refine lv_iload_n hx hb d_TileForge_damage_23 rfl (lv_at hl 1 rfl) ?_
        refine lv_aload_n hx hb d_TileForge_damage_24 rfl (lv_at hl 0 rfl) ?_
        refine va_get (D := D) (ci := 8) (v := .ref y1) (C := "TileForge") (T := T_TileForge) (N := 12) hx hb hts (cs_in in_TileForge) hown hK hP 0 rfl rfl 3 (by decide) (hts _ (cs_m mw_486)) (fun _ h9 => h9) rfl d_TileForge_damage_25 ?_
        refine va_get (D := D) (ci := 2) (v := .int (nI yl)) (C := "TileForge$ByteRow") (T := T_ByteRow) (N := 3) hx hb hts (cs_in in_ByteRow) hown hK hP 1 rfl rfl 1 (by decide) (hts _ (cs_m mw_510)) (fun _ h9 => h9) rfl d_TileForge_damage_28 ?_
        refine lv_icmp_gt (tgt := 41) hx hb d_TileForge_damage_31 (by decide) (fun c_31 => ?_) (fun c_31 => ?_)
        · exact cx_thr (ix := 61) (ic := 63) (E := "java/lang/IndexOutOfBoundsException") (post := (q_tf_damageC cI f0 a1 c1 r1 y1 k1 j1 ibc ilc igl ibk ifa ibd y2 yt yl yp k b)) hx hb hst (hl.1.trans hml.symm) B.named hts hown hX hP0 hAe mw_570 mw_571 mw_572 oa_IOB fi_IOB hK hP hD hS hlocks (Nat.le_of_ble_eq_true rfl) (Nat.le_of_ble_eq_true rfl) (Nat.le_of_ble_eq_true rfl) (Nat.le_of_ble_eq_true rfl) (Nat.le_of_ble_eq_true rfl) (Nat.le_of_ble_eq_true rfl) d_TileForge_damage_41 d_TileForge_damage_44 d_TileForge_damage_45 d_TileForge_damage_48  (show _ = _ from rfl)
        · refine lv_iload_n hx hb d_TileForge_damage_34 rfl (lv_at hl 1 rfl) ?_
          refine lv_sipush (v := 400) hx hb d_TileForge_damage_35 (by decide) ?_
          refine lv_icmp_lt (tgt := 49) hx hb d_TileForge_damage_38 (by decide) (fun c_38 => ?_) (fun c_38 => ?_)
          · exact absurd (⟨c_20, c_31, c_38⟩ : ¬ k < 0 ∧ ¬ nI yl < k ∧ k < 400) hbad
          · exact cx_thr (ix := 61) (ic := 63) (E := "java/lang/IndexOutOfBoundsException") (post := (q_tf_damageC cI f0 a1 c1 r1 y1 k1 j1 ibc ilc igl ibk ifa ibd y2 yt yl yp k b)) hx hb hst (hl.1.trans hml.symm) B.named hts hown hX hP0 hAe mw_570 mw_571 mw_572 oa_IOB fi_IOB hK hP hD hS hlocks (Nat.le_of_ble_eq_true rfl) (Nat.le_of_ble_eq_true rfl) (Nat.le_of_ble_eq_true rfl) (Nat.le_of_ble_eq_true rfl) (Nat.le_of_ble_eq_true rfl) (Nat.le_of_ble_eq_true rfl) d_TileForge_damage_41 d_TileForge_damage_44 d_TileForge_damage_45 d_TileForge_damage_48  (show _ = _ from rfl)
    · exact absurd (Int32.not_lt.mp hbb.2) c_8
def q_tf_cutB (cI : ClassId) (f0 : Nat) (a1 : Nat) (c1 : Nat) (r1 : Nat) (y1 : Nat) (k1 : Nat) (j1 : Nat) (ibc : Int32) (ilc : Int32) (igl : Int32) (ibk : Int32) (ifa : Int32) (ibd : Int32) (y2 : Nat) (yt : Nat → Int32) (yl : Nat) (yp : Nat) (k : Int32) : va_W → Prop := fun ww => ww = [(f0, .inr (8, [.ref a1, .ref c1, .ref r1, .ref y1, .ref k1, .ref j1, .int ibc, .int ilc, .int igl, .int ibk, .int ifa, .int ibd])), (y1, .inr (2, [.ref y2, .int (nI yl), .int (nI yp)])), (y2, .inl (cI, 400, .inl yt))]
set_option maxHeartbeats 4000000 in
set_option maxRecDepth 100000 in
theorem c_tf_cutB (l : Launch) (hst : l.stackTraces = false) {D : va_G} {tys : List (ClassId × FieldType)} {cI : ClassId} (hcI : tys[0]? = some (cI, .int)) (f0 : Nat) (a1 : Nat) (c1 : Nat) (r1 : Nat) (y1 : Nat) (k1 : Nat) (j1 : Nat) (ibc : Int32) (ilc : Int32) (igl : Int32) (ibk : Int32) (ifa : Int32) (ibd : Int32) (y2 : Nat) (yt : Nat → Int32) (yl : Nat) (yp : Nat) (k : Int32) (hbad : ¬ (¬ k < 0 ∧ ¬ nI yl < k)) : CxE l D vwCl tys y_TileForge_cut ws_TileForge_cut ({ frames := 6, cells := 1, slots := 6, locals := 81 } : Room) [.ref f0, .int k] [(f0, .inr (8, [.ref a1, .ref c1, .ref r1, .ref y1, .ref k1, .ref j1, .int ibc, .int ilc, .int igl, .int ibk, .int ifa, .int ibd])), (y1, .inr (2, [.ref y2, .int (nI yl), .int (nI yp)])), (y2, .inl (cI, 400, .inl yt))] (q_tf_cutB cI f0 a1 c1 r1 y1 k1 j1 ibc ilc igl ibk ifa ibd y2 yt yl yp k) "java/lang/IllegalArgumentException" 1 6 := by
  intro sz
  refine cx_ofW (cc := prog_1_method_9_code) (maxL := 3) (ret := (some .int)) (by decide) rfl ?_
  intro p e s m args below meth c s₁ B hml hv
  obtain ⟨rfl, ⟨hsz, hP, hK, hD0, hN⟩, hX⟩ := hv
  have hx := B.exec
  have hb := B.bytes
  have hr := B.returns
  have hts := atoms_spec (ws := ws_TileForge_cut) B.pre
  have hown : s.vm.findClass "TileForge" = some m.cls := findClass_of_methodNamed B.named
  have hlocks := B.notSynchronized
  subst hsz
  have hD := hD0.self (sz := s.heap.size)
  generalize hAe : va_A [(f0, .inr (8, [.ref a1, .ref c1, .ref r1, .ref y1, .ref k1, .ref j1, .int ibc, .int ilc, .int igl, .int ibk, .int ifa, .int ibd])), (y1, .inr (2, [.ref y2, .int (nI yl), .int (nI yp)])), (y2, .inl (cI, 400, .inl yt))] s.heap.size = A at hD ⊢
  have hA : ∀ q : Nat, s.heap.size ≤ q → A q := fun q h => by rw [← hAe]; exact Or.inr h
  have hS : va_S A s.heap s.heap [] := va_S.rf
  have hP : va_P D vwCl [(f0, .inr (8, [.ref a1, .ref c1, .ref r1, .ref y1, .ref k1, .ref j1, .int ibc, .int ilc, .int igl, .int ibk, .int ifa, .int ibd])), (y1, .inr (2, [.ref y2, .int (nI yl), .int (nI yp)])), (y2, .inl (cI, 400, .inl yt))] s.heap := hP
  have hP0 := hP
  have hl := lv_entry ([.ref f0, .int k]) (n := 3) (Nat.le_of_ble_eq_true rfl)
  rw [lg_entry_eq]
  generalize (lg_sl ([.ref f0, .int k]) ++ List.replicate (3 - (lg_sl ([.ref f0, .int k])).length) Slot.unset).toArray = ls at hl ⊢
  have hl : lv_has ls 3 [(0, .ref f0), (1, .int k)] := hl
  refine lv_iload_n hx hb d_TileForge_cut_0 rfl (lv_at hl 1 rfl) ?_
  refine lv_if_lt (tgt := 15) hx hb d_TileForge_cut_1 (by decide) (fun c_1 => ?_) (fun c_1 => ?_)
  · exact cx_thr (ix := 51) (ic := 53) (E := "java/lang/IllegalArgumentException") (post := (q_tf_cutB cI f0 a1 c1 r1 y1 k1 j1 ibc ilc igl ibk ifa ibd y2 yt yl yp k)) hx hb hst (hl.1.trans hml.symm) B.named hts hown hX hP0 hAe mw_567 mw_568 mw_569 oa_IAE fi_IAE hK hP hD hS hlocks (Nat.le_of_ble_eq_true rfl) (Nat.le_of_ble_eq_true rfl) (Nat.le_of_ble_eq_true rfl) (Nat.le_of_ble_eq_true rfl) (Nat.le_of_ble_eq_true rfl) (Nat.le_of_ble_eq_true rfl) d_TileForge_cut_15 d_TileForge_cut_18 d_TileForge_cut_19 d_TileForge_cut_22  (show _ = _ from rfl)
  · refine lv_iload_n hx hb d_TileForge_cut_4 rfl (lv_at hl 1 rfl) ?_
    refine lv_aload_n hx hb d_TileForge_cut_5 rfl (lv_at hl 0 rfl) ?_
    refine va_get (D := D) (ci := 8) (v := .ref y1) (C := "TileForge") (T := T_TileForge) (N := 12) hx hb hts (cs_in in_TileForge) hown hK hP 0 rfl rfl 3 (by decide) (hts _ (cs_m mw_486)) (fun _ h9 => h9) rfl d_TileForge_cut_6 ?_
    refine va_get (D := D) (ci := 2) (v := .int (nI yl)) (C := "TileForge$ByteRow") (T := T_ByteRow) (N := 3) hx hb hts (cs_in in_ByteRow) hown hK hP 1 rfl rfl 1 (by decide) (hts _ (cs_m mw_510)) (fun _ h9 => h9) rfl d_TileForge_cut_9 ?_
    refine lv_icmp_le (tgt := 23) hx hb d_TileForge_cut_12 (by decide) (fun c_12 => ?_) (fun c_12 => ?_)
    · exact absurd (⟨c_1, Int32.not_lt.mpr c_12⟩ : ¬ k < 0 ∧ ¬ nI yl < k) hbad
    · exact cx_thr (ix := 51) (ic := 53) (E := "java/lang/IllegalArgumentException") (post := (q_tf_cutB cI f0 a1 c1 r1 y1 k1 j1 ibc ilc igl ibk ifa ibd y2 yt yl yp k)) hx hb hst (hl.1.trans hml.symm) B.named hts hown hX hP0 hAe mw_567 mw_568 mw_569 oa_IAE fi_IAE hK hP hD hS hlocks (Nat.le_of_ble_eq_true rfl) (Nat.le_of_ble_eq_true rfl) (Nat.le_of_ble_eq_true rfl) (Nat.le_of_ble_eq_true rfl) (Nat.le_of_ble_eq_true rfl) (Nat.le_of_ble_eq_true rfl) d_TileForge_cut_15 d_TileForge_cut_18 d_TileForge_cut_19 d_TileForge_cut_22  (show _ = _ from rfl)
def q_tf_getB (cI : ClassId) (f0 : Nat) (a1 : Nat) (c1 : Nat) (r1 : Nat) (y1 : Nat) (k1 : Nat) (j1 : Nat) (ibc : Int32) (ilc : Int32) (igl : Int32) (ibk : Int32) (ifa : Int32) (ibd : Int32) (o : Int32) (x : Int32) (y : Int32) : va_W → Prop := fun ww => ww = [(f0, .inr (8, [.ref a1, .ref c1, .ref r1, .ref y1, .ref k1, .ref j1, .int ibc, .int ilc, .int igl, .int ibk, .int ifa, .int ibd]))]
set_option maxHeartbeats 4000000 in
set_option maxRecDepth 100000 in
theorem c_tf_getB (l : Launch) (hst : l.stackTraces = false) {D : va_G} {tys : List (ClassId × FieldType)} {cI : ClassId} (hcI : tys[0]? = some (cI, .int)) (f0 : Nat) (a1 : Nat) (c1 : Nat) (r1 : Nat) (y1 : Nat) (k1 : Nat) (j1 : Nat) (ibc : Int32) (ilc : Int32) (igl : Int32) (ibk : Int32) (ifa : Int32) (ibd : Int32) (o : Int32) (x : Int32) (y : Int32) (hbad : ¬ (¬ o < 0 ∧ ¬ 2 < o)) : CxE l D vwCl tys y_TileForge_get ws_TileForge_get ({ frames := 6, cells := 1, slots := 6, locals := 81 } : Room) [.ref f0, .int o, .int x, .int y] [(f0, .inr (8, [.ref a1, .ref c1, .ref r1, .ref y1, .ref k1, .ref j1, .int ibc, .int ilc, .int igl, .int ibk, .int ifa, .int ibd]))] (q_tf_getB cI f0 a1 c1 r1 y1 k1 j1 ibc ilc igl ibk ifa ibd o x y) "java/lang/IllegalArgumentException" 1 6 := by
  intro sz
  refine cx_ofW (cc := prog_1_method_10_code) (maxL := 5) (ret := (some .int)) (by decide) rfl ?_
  intro p e s m args below meth c s₁ B hml hv
  obtain ⟨rfl, ⟨hsz, hP, hK, hD0, hN⟩, hX⟩ := hv
  have hx := B.exec
  have hb := B.bytes
  have hr := B.returns
  have hts := atoms_spec (ws := ws_TileForge_get) B.pre
  have hown : s.vm.findClass "TileForge" = some m.cls := findClass_of_methodNamed B.named
  have hlocks := B.notSynchronized
  subst hsz
  have hD := hD0.self (sz := s.heap.size)
  generalize hAe : va_A [(f0, .inr (8, [.ref a1, .ref c1, .ref r1, .ref y1, .ref k1, .ref j1, .int ibc, .int ilc, .int igl, .int ibk, .int ifa, .int ibd]))] s.heap.size = A at hD ⊢
  have hA : ∀ q : Nat, s.heap.size ≤ q → A q := fun q h => by rw [← hAe]; exact Or.inr h
  have hS : va_S A s.heap s.heap [] := va_S.rf
  have hP : va_P D vwCl [(f0, .inr (8, [.ref a1, .ref c1, .ref r1, .ref y1, .ref k1, .ref j1, .int ibc, .int ilc, .int igl, .int ibk, .int ifa, .int ibd]))] s.heap := hP
  have hP0 := hP
  have hl := lv_entry ([.ref f0, .int o, .int x, .int y]) (n := 5) (Nat.le_of_ble_eq_true rfl)
  rw [lg_entry_eq]
  generalize (lg_sl ([.ref f0, .int o, .int x, .int y]) ++ List.replicate (5 - (lg_sl ([.ref f0, .int o, .int x, .int y])).length) Slot.unset).toArray = ls at hl ⊢
  have hl : lv_has ls 5 [(0, .ref f0), (1, .int o), (2, .int x), (3, .int y)] := hl
  refine lv_iload_n hx hb d_TileForge_get_0 rfl (lv_at hl 1 rfl) ?_
  refine cs_Si (As := [.int o]) (rest := []) (wr := [(f0, .inr (8, [.ref a1, .ref c1, .ref r1, .ref y1, .ref k1, .ref j1, .int ibc, .int ilc, .int igl, .int ibk, .int ifa, .int ibd]))]) ⟨hx, hb, hml, hown, hts⟩ (c_isChoice l hcI o) (va_cwS 1 hts (cs_gS mw_518 mw_519 mw_139 mw_77) rfl rfl rfl hd_TileForge_isChoice ⟨Nat.le_of_ble_eq_true rfl, Nat.le_of_ble_eq_true rfl⟩) hN hK hP hD hS hA [] [0] rfl rfl rfl rfl (by decide) rfl rfl hl.1 (Nat.le_of_ble_eq_true rfl) d_TileForge_get_1 ⟨Nat.le_of_ble_eq_true rfl, Nat.le_of_ble_eq_true rfl⟩ (fun r1 w1 H locs hw hP hD hS => ?_)
  obtain ⟨rfl, rfl⟩ := hw
  have hP : va_P D vwCl [(f0, .inr (8, [.ref a1, .ref c1, .ref r1, .ref y1, .ref k1, .ref j1, .int ibc, .int ilc, .int igl, .int ibk, .int ifa, .int ibd]))] H := hP
  have hD : va_D A [(f0, .inr (8, [.ref a1, .ref c1, .ref r1, .ref y1, .ref k1, .ref j1, .int ibc, .int ilc, .int igl, .int ibk, .int ifa, .int ibd]))] := hD
  refine lv_if_ne (tgt := 15) hx hb d_TileForge_get_4 (by decide) (fun c_4 => ?_) (fun c_4 => ?_)
  · have c_4 := cs_b1 c_4
    exact absurd c_4 hbad
  · have c_4 := cs_b0 c_4
    exact cx_thr (ix := 51) (ic := 53) (E := "java/lang/IllegalArgumentException") (post := (q_tf_getB cI f0 a1 c1 r1 y1 k1 j1 ibc ilc igl ibk ifa ibd o x y)) hx hb hst (hl.1.trans hml.symm) B.named hts hown hX hP0 hAe mw_567 mw_568 mw_569 oa_IAE fi_IAE hK hP hD hS hlocks (Nat.le_of_ble_eq_true rfl) (Nat.le_of_ble_eq_true rfl) (Nat.le_of_ble_eq_true rfl) (Nat.le_of_ble_eq_true rfl) (Nat.le_of_ble_eq_true rfl) (Nat.le_of_ble_eq_true rfl) d_TileForge_get_7 d_TileForge_get_10 d_TileForge_get_11 d_TileForge_get_14  (show _ = _ from rfl)
theorem mw_576 : (.classLink "TileForge" 103 "java/lang/IllegalStateException" : Cond) ∈ GW := List.mem_filter.mpr ⟨(List.mem_append_right _ (List.mem_append_right _ (List.mem_append_right _ (List.mem_append_left _ (List.mem_of_getElem? (i := 14) rfl))))), rfl⟩
theorem mw_577 : (.instantiable "java/lang/IllegalStateException" 6 : Cond) ∈ GW := List.mem_filter.mpr ⟨(List.mem_append_right _ (List.mem_append_right _ (List.mem_append_right _ (List.mem_append_left _ (List.mem_of_getElem? (i := 15) rfl))))), rfl⟩
theorem mw_578 : (.initialized "java/lang/IllegalStateException" : Cond) ∈ GW := List.mem_filter.mpr ⟨(List.mem_append_right _ (List.mem_append_left _ (List.mem_of_getElem? (i := 17) rfl))), rfl⟩
def q_tf_getC0 (cI : ClassId) (f0 : Nat) (a1 : Nat) (c1 : Nat) (r1 : Nat) (y1 : Nat) (k1 : Nat) (j1 : Nat) (ibc : Int32) (ilc : Int32) (igl : Int32) (ibk : Int32) (ifa : Int32) (ibd : Int32) (a2 : Nat) (a3 : Nat) (px : Nat → Int32) (md : Nat → Int32) (vz : Int32) (vw : Int32) (vh : Int32) (vk : Int32) (x : Int32) (y : Int32) : va_W → Prop := fun ww => ww = [(f0, .inr (8, [.ref a1, .ref c1, .ref r1, .ref y1, .ref k1, .ref j1, .int ibc, .int ilc, .int igl, .int ibk, .int ifa, .int ibd])), (a1, .inr (5, [.ref a2, .ref a3, .int vz, .int vw, .int vh, .int vk])), (a2, .inl (cI, 144, .inl px)), (a3, .inl (cI, 9, .inl md))]
set_option maxHeartbeats 4000000 in
set_option maxRecDepth 100000 in
theorem c_tf_getC0 (l : Launch) (hst : l.stackTraces = false) {D : va_G} {tys : List (ClassId × FieldType)} {cI : ClassId} (hcI : tys[0]? = some (cI, .int)) (f0 : Nat) (a1 : Nat) (c1 : Nat) (r1 : Nat) (y1 : Nat) (k1 : Nat) (j1 : Nat) (ibc : Int32) (ilc : Int32) (igl : Int32) (ibk : Int32) (ifa : Int32) (ibd : Int32) (a2 : Nat) (a3 : Nat) (px : Nat → Int32) (md : Nat → Int32) (vz : Int32) (vw : Int32) (vh : Int32) (vk : Int32) (x : Int32) (y : Int32) (hmd : vz = 0) : CxE l D vwCl tys y_TileForge_get ws_TileForge_get ({ frames := 6, cells := 1, slots := 6, locals := 81 } : Room) [.ref f0, .int 0, .int x, .int y] [(f0, .inr (8, [.ref a1, .ref c1, .ref r1, .ref y1, .ref k1, .ref j1, .int ibc, .int ilc, .int igl, .int ibk, .int ifa, .int ibd])), (a1, .inr (5, [.ref a2, .ref a3, .int vz, .int vw, .int vh, .int vk])), (a2, .inl (cI, 144, .inl px)), (a3, .inl (cI, 9, .inl md))] (q_tf_getC0 cI f0 a1 c1 r1 y1 k1 j1 ibc ilc igl ibk ifa ibd a2 a3 px md vz vw vh vk x y) "java/lang/IllegalStateException" 1 6 := by
  intro sz
  refine cx_ofW (cc := prog_1_method_10_code) (maxL := 5) (ret := (some .int)) (by decide) rfl ?_
  intro p e s m args below meth c s₁ B hml hv
  obtain ⟨rfl, ⟨hsz, hP, hK, hD0, hN⟩, hX⟩ := hv
  have hx := B.exec
  have hb := B.bytes
  have hr := B.returns
  have hts := atoms_spec (ws := ws_TileForge_get) B.pre
  have hown : s.vm.findClass "TileForge" = some m.cls := findClass_of_methodNamed B.named
  have hlocks := B.notSynchronized
  subst hsz
  have hD := hD0.self (sz := s.heap.size)
  generalize hAe : va_A [(f0, .inr (8, [.ref a1, .ref c1, .ref r1, .ref y1, .ref k1, .ref j1, .int ibc, .int ilc, .int igl, .int ibk, .int ifa, .int ibd])), (a1, .inr (5, [.ref a2, .ref a3, .int vz, .int vw, .int vh, .int vk])), (a2, .inl (cI, 144, .inl px)), (a3, .inl (cI, 9, .inl md))] s.heap.size = A at hD ⊢
  have hA : ∀ q : Nat, s.heap.size ≤ q → A q := fun q h => by rw [← hAe]; exact Or.inr h
  have hS : va_S A s.heap s.heap [] := va_S.rf
  have hP : va_P D vwCl [(f0, .inr (8, [.ref a1, .ref c1, .ref r1, .ref y1, .ref k1, .ref j1, .int ibc, .int ilc, .int igl, .int ibk, .int ifa, .int ibd])), (a1, .inr (5, [.ref a2, .ref a3, .int vz, .int vw, .int vh, .int vk])), (a2, .inl (cI, 144, .inl px)), (a3, .inl (cI, 9, .inl md))] s.heap := hP
  have hP0 := hP
  have hl := lv_entry ([.ref f0, .int 0, .int x, .int y]) (n := 5) (Nat.le_of_ble_eq_true rfl)
  rw [lg_entry_eq]
  generalize (lg_sl ([.ref f0, .int 0, .int x, .int y]) ++ List.replicate (5 - (lg_sl ([.ref f0, .int 0, .int x, .int y])).length) Slot.unset).toArray = ls at hl ⊢
  have hl : lv_has ls 5 [(0, .ref f0), (1, .int 0), (2, .int x), (3, .int y)] := hl
  refine lv_iload_n hx hb d_TileForge_get_0 rfl (lv_at hl 1 rfl) ?_
  refine cs_Si (As := [.int 0]) (rest := []) (wr := [(f0, .inr (8, [.ref a1, .ref c1, .ref r1, .ref y1, .ref k1, .ref j1, .int ibc, .int ilc, .int igl, .int ibk, .int ifa, .int ibd])), (a1, .inr (5, [.ref a2, .ref a3, .int vz, .int vw, .int vh, .int vk])), (a2, .inl (cI, 144, .inl px)), (a3, .inl (cI, 9, .inl md))]) ⟨hx, hb, hml, hown, hts⟩ (c_isChoice l hcI 0) (va_cwS 1 hts (cs_gS mw_518 mw_519 mw_139 mw_77) rfl rfl rfl hd_TileForge_isChoice ⟨Nat.le_of_ble_eq_true rfl, Nat.le_of_ble_eq_true rfl⟩) hN hK hP hD hS hA [] [0, 1, 2, 3] rfl rfl rfl rfl (by decide) rfl rfl hl.1 (Nat.le_of_ble_eq_true rfl) d_TileForge_get_1 ⟨Nat.le_of_ble_eq_true rfl, Nat.le_of_ble_eq_true rfl⟩ (fun r1 w1 H locs hw hP hD hS => ?_)
  obtain ⟨rfl, rfl⟩ := hw
  have hP : va_P D vwCl [(f0, .inr (8, [.ref a1, .ref c1, .ref r1, .ref y1, .ref k1, .ref j1, .int ibc, .int ilc, .int igl, .int ibk, .int ifa, .int ibd])), (a1, .inr (5, [.ref a2, .ref a3, .int vz, .int vw, .int vh, .int vk])), (a2, .inl (cI, 144, .inl px)), (a3, .inl (cI, 9, .inl md))] H := hP
  have hD : va_D A [(f0, .inr (8, [.ref a1, .ref c1, .ref r1, .ref y1, .ref k1, .ref j1, .int ibc, .int ilc, .int igl, .int ibk, .int ifa, .int ibd])), (a1, .inr (5, [.ref a2, .ref a3, .int vz, .int vw, .int vh, .int vk])), (a2, .inl (cI, 144, .inl px)), (a3, .inl (cI, 9, .inl md))] := hD
  refine lv_if_ne (tgt := 15) hx hb d_TileForge_get_4 (by decide) (fun c_4 => ?_) (fun c_4 => ?_)
  · have c_4 := cs_b1 c_4
    refine lv_aload_n hx hb d_TileForge_get_15 rfl (lv_at hl 0 rfl) ?_
    refine lv_iload_n hx hb d_TileForge_get_16 rfl (lv_at hl 1 rfl) ?_
    refine cs_Vr (As := [.int 0]) (rest := []) (wr := [(a1, .inr (5, [.ref a2, .ref a3, .int vz, .int vw, .int vh, .int vk])), (a2, .inl (cI, 144, .inl px)), (a3, .inl (cI, 9, .inl md))]) ⟨hx, hb, hml, hown, hts⟩ (c_tf_choose0 l hcI f0 a1 c1 r1 y1 k1 j1 ibc ilc igl ibk ifa ibd) (cwV 1 hts (cs_gV mw_520 mw_521 mw_522 mw_139 mw_472) rfl rfl rfl ⟨rfl, hd_TileForge_choose⟩ ⟨Nat.le_of_ble_eq_true rfl, Nat.le_of_ble_eq_true rfl⟩) hN hK hP hD hS hA [0] [1, 2, 3] rfl rfl rfl rfl (by decide) (ci := 8) rfl rfl rfl rfl rfl hl.1 (Nat.le_of_ble_eq_true rfl) d_TileForge_get_17 ⟨Nat.le_of_ble_eq_true rfl, Nat.le_of_ble_eq_true rfl⟩ (fun r2 w1 H locs hw hP hD hS => ?_)
    obtain ⟨hrr, rfl⟩ := hw
    have hrr := hrr.symm
    subst hrr
    have hP : va_P D vwCl [(a1, .inr (5, [.ref a2, .ref a3, .int vz, .int vw, .int vh, .int vk])), (a2, .inl (cI, 144, .inl px)), (a3, .inl (cI, 9, .inl md)), (f0, .inr (8, [.ref a1, .ref c1, .ref r1, .ref y1, .ref k1, .ref j1, .int ibc, .int ilc, .int igl, .int ibk, .int ifa, .int ibd]))] H := hP
    have hD : va_D A [(a1, .inr (5, [.ref a2, .ref a3, .int vz, .int vw, .int vh, .int vk])), (a2, .inl (cI, 144, .inl px)), (a3, .inl (cI, 9, .inl md)), (f0, .inr (8, [.ref a1, .ref c1, .ref r1, .ref y1, .ref k1, .ref j1, .int ibc, .int ilc, .int igl, .int ibk, .int ifa, .int ibd]))] := hD
    refine lv_astore (lv' := [(4, .ref a1), (0, .ref f0), (1, .int 0), (2, .int x), (3, .int y)]) hx hb d_TileForge_get_20 hl (by decide) rfl (fun ls hl => ?_)
    refine lv_aload hx hb d_TileForge_get_22 (lv_at hl 0 rfl) ?_
    refine va_get (D := D) (ci := 5) (v := .int vz) (C := "TileForge$Picture") (T := T_Picture) (N := 6) hx hb hts (cs_in in_Picture) hown hK hP 0 rfl rfl 2 (by decide) (hts _ (cs_m mw_523)) (fun _ h9 => h9) rfl d_TileForge_get_24 ?_
    refine lv_if_ne (tgt := 38) hx hb d_TileForge_get_27 (by decide) (fun c_27 => ?_) (fun c_27 => ?_)
    · exact absurd hmd c_27
    · have hP := hP.sub (ws' := [(f0, .inr (8, [.ref a1, .ref c1, .ref r1, .ref y1, .ref k1, .ref j1, .int ibc, .int ilc, .int igl, .int ibk, .int ifa, .int ibd])), (a1, .inr (5, [.ref a2, .ref a3, .int vz, .int vw, .int vh, .int vk])), (a2, .inl (cI, 144, .inl px)), (a3, .inl (cI, 9, .inl md))]) [3, 0, 1, 2] rfl
      have hD := hD.sub (ws' := [(f0, .inr (8, [.ref a1, .ref c1, .ref r1, .ref y1, .ref k1, .ref j1, .int ibc, .int ilc, .int igl, .int ibk, .int ifa, .int ibd])), (a1, .inr (5, [.ref a2, .ref a3, .int vz, .int vw, .int vh, .int vk])), (a2, .inl (cI, 144, .inl px)), (a3, .inl (cI, 9, .inl md))]) [3, 0, 1, 2] (by decide) rfl
      exact cx_thr (ix := 103) (ic := 105) (E := "java/lang/IllegalStateException") (post := (q_tf_getC0 cI f0 a1 c1 r1 y1 k1 j1 ibc ilc igl ibk ifa ibd a2 a3 px md vz vw vh vk x y)) hx hb hst (hl.1.trans hml.symm) B.named hts hown hX hP0 hAe mw_576 mw_577 mw_578 oa_ISE fi_ISE hK hP hD hS hlocks (Nat.le_of_ble_eq_true rfl) (Nat.le_of_ble_eq_true rfl) (Nat.le_of_ble_eq_true rfl) (Nat.le_of_ble_eq_true rfl) (Nat.le_of_ble_eq_true rfl) (Nat.le_of_ble_eq_true rfl) d_TileForge_get_30 d_TileForge_get_33 d_TileForge_get_34 d_TileForge_get_37  (show _ = _ from rfl)
  · have c_4 := cs_b0 c_4
    exact absurd (by decide) c_4
def q_tf_getD0 (cI : ClassId) (f0 : Nat) (a1 : Nat) (c1 : Nat) (r1 : Nat) (y1 : Nat) (k1 : Nat) (j1 : Nat) (ibc : Int32) (ilc : Int32) (igl : Int32) (ibk : Int32) (ifa : Int32) (ibd : Int32) (a2 : Nat) (a3 : Nat) (px : Nat → Int32) (md : Nat → Int32) (vz : Int32) (vw : Int32) (vh : Int32) (vk : Int32) (x : Int32) (y : Int32) : va_W → Prop := fun ww => ww = [(f0, .inr (8, [.ref a1, .ref c1, .ref r1, .ref y1, .ref k1, .ref j1, .int ibc, .int ilc, .int igl, .int ibk, .int ifa, .int ibd])), (a1, .inr (5, [.ref a2, .ref a3, .int vz, .int vw, .int vh, .int vk])), (a2, .inl (cI, 144, .inl px)), (a3, .inl (cI, 9, .inl md))]
set_option maxHeartbeats 4000000 in
set_option maxRecDepth 100000 in
theorem c_tf_getD0 (l : Launch) (hst : l.stackTraces = false) {D : va_G} {tys : List (ClassId × FieldType)} {cI : ClassId} (hcI : tys[0]? = some (cI, .int)) (f0 : Nat) (a1 : Nat) (c1 : Nat) (r1 : Nat) (y1 : Nat) (k1 : Nat) (j1 : Nat) (ibc : Int32) (ilc : Int32) (igl : Int32) (ibk : Int32) (ifa : Int32) (ibd : Int32) (a2 : Nat) (a3 : Nat) (px : Nat → Int32) (md : Nat → Int32) (vz : Int32) (vw : Int32) (vh : Int32) (vk : Int32) (x : Int32) (y : Int32) (hmd : ¬ vz = 0) (hno : ¬ hasP vw vh x y) : CxE l D vwCl tys y_TileForge_get ws_TileForge_get ({ frames := 6, cells := 1, slots := 6, locals := 81 } : Room) [.ref f0, .int 0, .int x, .int y] [(f0, .inr (8, [.ref a1, .ref c1, .ref r1, .ref y1, .ref k1, .ref j1, .int ibc, .int ilc, .int igl, .int ibk, .int ifa, .int ibd])), (a1, .inr (5, [.ref a2, .ref a3, .int vz, .int vw, .int vh, .int vk])), (a2, .inl (cI, 144, .inl px)), (a3, .inl (cI, 9, .inl md))] (q_tf_getD0 cI f0 a1 c1 r1 y1 k1 j1 ibc ilc igl ibk ifa ibd a2 a3 px md vz vw vh vk x y) "java/lang/IndexOutOfBoundsException" 1 6 := by
  intro sz
  refine cx_ofW (cc := prog_1_method_10_code) (maxL := 5) (ret := (some .int)) (by decide) rfl ?_
  intro p e s m args below meth c s₁ B hml hv
  obtain ⟨rfl, ⟨hsz, hP, hK, hD0, hN⟩, hX⟩ := hv
  have hx := B.exec
  have hb := B.bytes
  have hr := B.returns
  have hts := atoms_spec (ws := ws_TileForge_get) B.pre
  have hown : s.vm.findClass "TileForge" = some m.cls := findClass_of_methodNamed B.named
  have hlocks := B.notSynchronized
  subst hsz
  have hD := hD0.self (sz := s.heap.size)
  generalize hAe : va_A [(f0, .inr (8, [.ref a1, .ref c1, .ref r1, .ref y1, .ref k1, .ref j1, .int ibc, .int ilc, .int igl, .int ibk, .int ifa, .int ibd])), (a1, .inr (5, [.ref a2, .ref a3, .int vz, .int vw, .int vh, .int vk])), (a2, .inl (cI, 144, .inl px)), (a3, .inl (cI, 9, .inl md))] s.heap.size = A at hD ⊢
  have hA : ∀ q : Nat, s.heap.size ≤ q → A q := fun q h => by rw [← hAe]; exact Or.inr h
  have hS : va_S A s.heap s.heap [] := va_S.rf
  have hP : va_P D vwCl [(f0, .inr (8, [.ref a1, .ref c1, .ref r1, .ref y1, .ref k1, .ref j1, .int ibc, .int ilc, .int igl, .int ibk, .int ifa, .int ibd])), (a1, .inr (5, [.ref a2, .ref a3, .int vz, .int vw, .int vh, .int vk])), (a2, .inl (cI, 144, .inl px)), (a3, .inl (cI, 9, .inl md))] s.heap := hP
  have hP0 := hP
  have hl := lv_entry ([.ref f0, .int 0, .int x, .int y]) (n := 5) (Nat.le_of_ble_eq_true rfl)
  rw [lg_entry_eq]
  generalize (lg_sl ([.ref f0, .int 0, .int x, .int y]) ++ List.replicate (5 - (lg_sl ([.ref f0, .int 0, .int x, .int y])).length) Slot.unset).toArray = ls at hl ⊢
  have hl : lv_has ls 5 [(0, .ref f0), (1, .int 0), (2, .int x), (3, .int y)] := hl
  refine lv_iload_n hx hb d_TileForge_get_0 rfl (lv_at hl 1 rfl) ?_
  refine cs_Si (As := [.int 0]) (rest := []) (wr := [(f0, .inr (8, [.ref a1, .ref c1, .ref r1, .ref y1, .ref k1, .ref j1, .int ibc, .int ilc, .int igl, .int ibk, .int ifa, .int ibd])), (a1, .inr (5, [.ref a2, .ref a3, .int vz, .int vw, .int vh, .int vk])), (a2, .inl (cI, 144, .inl px)), (a3, .inl (cI, 9, .inl md))]) ⟨hx, hb, hml, hown, hts⟩ (c_isChoice l hcI 0) (va_cwS 1 hts (cs_gS mw_518 mw_519 mw_139 mw_77) rfl rfl rfl hd_TileForge_isChoice ⟨Nat.le_of_ble_eq_true rfl, Nat.le_of_ble_eq_true rfl⟩) hN hK hP hD hS hA [] [0, 1, 2, 3] rfl rfl rfl rfl (by decide) rfl rfl hl.1 (Nat.le_of_ble_eq_true rfl) d_TileForge_get_1 ⟨Nat.le_of_ble_eq_true rfl, Nat.le_of_ble_eq_true rfl⟩ (fun r1 w1 H locs hw hP hD hS => ?_)
  obtain ⟨rfl, rfl⟩ := hw
  have hP : va_P D vwCl [(f0, .inr (8, [.ref a1, .ref c1, .ref r1, .ref y1, .ref k1, .ref j1, .int ibc, .int ilc, .int igl, .int ibk, .int ifa, .int ibd])), (a1, .inr (5, [.ref a2, .ref a3, .int vz, .int vw, .int vh, .int vk])), (a2, .inl (cI, 144, .inl px)), (a3, .inl (cI, 9, .inl md))] H := hP
  have hD : va_D A [(f0, .inr (8, [.ref a1, .ref c1, .ref r1, .ref y1, .ref k1, .ref j1, .int ibc, .int ilc, .int igl, .int ibk, .int ifa, .int ibd])), (a1, .inr (5, [.ref a2, .ref a3, .int vz, .int vw, .int vh, .int vk])), (a2, .inl (cI, 144, .inl px)), (a3, .inl (cI, 9, .inl md))] := hD
  refine lv_if_ne (tgt := 15) hx hb d_TileForge_get_4 (by decide) (fun c_4 => ?_) (fun c_4 => ?_)
  · have c_4 := cs_b1 c_4
    refine lv_aload_n hx hb d_TileForge_get_15 rfl (lv_at hl 0 rfl) ?_
    refine lv_iload_n hx hb d_TileForge_get_16 rfl (lv_at hl 1 rfl) ?_
    refine cs_Vr (As := [.int 0]) (rest := []) (wr := [(a1, .inr (5, [.ref a2, .ref a3, .int vz, .int vw, .int vh, .int vk])), (a2, .inl (cI, 144, .inl px)), (a3, .inl (cI, 9, .inl md))]) ⟨hx, hb, hml, hown, hts⟩ (c_tf_choose0 l hcI f0 a1 c1 r1 y1 k1 j1 ibc ilc igl ibk ifa ibd) (cwV 1 hts (cs_gV mw_520 mw_521 mw_522 mw_139 mw_472) rfl rfl rfl ⟨rfl, hd_TileForge_choose⟩ ⟨Nat.le_of_ble_eq_true rfl, Nat.le_of_ble_eq_true rfl⟩) hN hK hP hD hS hA [0] [1, 2, 3] rfl rfl rfl rfl (by decide) (ci := 8) rfl rfl rfl rfl rfl hl.1 (Nat.le_of_ble_eq_true rfl) d_TileForge_get_17 ⟨Nat.le_of_ble_eq_true rfl, Nat.le_of_ble_eq_true rfl⟩ (fun r2 w1 H locs hw hP hD hS => ?_)
    obtain ⟨hrr, rfl⟩ := hw
    have hrr := hrr.symm
    subst hrr
    have hP : va_P D vwCl [(a1, .inr (5, [.ref a2, .ref a3, .int vz, .int vw, .int vh, .int vk])), (a2, .inl (cI, 144, .inl px)), (a3, .inl (cI, 9, .inl md)), (f0, .inr (8, [.ref a1, .ref c1, .ref r1, .ref y1, .ref k1, .ref j1, .int ibc, .int ilc, .int igl, .int ibk, .int ifa, .int ibd]))] H := hP
    have hD : va_D A [(a1, .inr (5, [.ref a2, .ref a3, .int vz, .int vw, .int vh, .int vk])), (a2, .inl (cI, 144, .inl px)), (a3, .inl (cI, 9, .inl md)), (f0, .inr (8, [.ref a1, .ref c1, .ref r1, .ref y1, .ref k1, .ref j1, .int ibc, .int ilc, .int igl, .int ibk, .int ifa, .int ibd]))] := hD
    refine lv_astore (lv' := [(4, .ref a1), (0, .ref f0), (1, .int 0), (2, .int x), (3, .int y)]) hx hb d_TileForge_get_20 hl (by decide) rfl (fun ls hl => ?_)
    refine lv_aload hx hb d_TileForge_get_22 (lv_at hl 0 rfl) ?_
    refine va_get (D := D) (ci := 5) (v := .int vz) (C := "TileForge$Picture") (T := T_Picture) (N := 6) hx hb hts (cs_in in_Picture) hown hK hP 0 rfl rfl 2 (by decide) (hts _ (cs_m mw_523)) (fun _ h9 => h9) rfl d_TileForge_get_24 ?_
    refine lv_if_ne (tgt := 38) hx hb d_TileForge_get_27 (by decide) (fun c_27 => ?_) (fun c_27 => ?_)
    · refine lv_aload hx hb d_TileForge_get_38 (lv_at hl 0 rfl) ?_
      refine lv_iload_n hx hb d_TileForge_get_40 rfl (lv_at hl 3 rfl) ?_
      refine lv_iload_n hx hb d_TileForge_get_41 rfl (lv_at hl 4 rfl) ?_
      refine cs_Vi (As := [.int x, .int y]) (rest := []) (wr := [(f0, .inr (8, [.ref a1, .ref c1, .ref r1, .ref y1, .ref k1, .ref j1, .int ibc, .int ilc, .int igl, .int ibk, .int ifa, .int ibd]))]) ⟨hx, hb, hml, hown, hts⟩ (c_pic_has l hcI a1 a2 a3 px md vz vw vh vk x y) (cwV 2 hts (cs_gV mw_503 mw_95 mw_96 mw_93 mw_91) rfl rfl rfl ⟨rfl, hd_Picture_has⟩ ⟨Nat.le_of_ble_eq_true rfl, Nat.le_of_ble_eq_true rfl⟩) hN hK hP hD hS hA [0, 1, 2] [3] rfl rfl rfl rfl (by decide) (ci := 5) rfl rfl rfl rfl rfl hl.1 (Nat.le_of_ble_eq_true rfl) d_TileForge_get_42 ⟨Nat.le_of_ble_eq_true rfl, Nat.le_of_ble_eq_true rfl⟩ (fun r3 w1 H locs hw hP hD hS => ?_)
      obtain ⟨rfl, rfl⟩ := hw
      have hP : va_P D vwCl [(f0, .inr (8, [.ref a1, .ref c1, .ref r1, .ref y1, .ref k1, .ref j1, .int ibc, .int ilc, .int igl, .int ibk, .int ifa, .int ibd])), (a1, .inr (5, [.ref a2, .ref a3, .int vz, .int vw, .int vh, .int vk])), (a2, .inl (cI, 144, .inl px)), (a3, .inl (cI, 9, .inl md))] H := hP
      have hD : va_D A [(f0, .inr (8, [.ref a1, .ref c1, .ref r1, .ref y1, .ref k1, .ref j1, .int ibc, .int ilc, .int igl, .int ibk, .int ifa, .int ibd])), (a1, .inr (5, [.ref a2, .ref a3, .int vz, .int vw, .int vh, .int vk])), (a2, .inl (cI, 144, .inl px)), (a3, .inl (cI, 9, .inl md))] := hD
      refine lv_if_ne (tgt := 56) hx hb d_TileForge_get_45 (by decide) (fun c_45 => ?_) (fun c_45 => ?_)
      · have c_45 := cs_b1 c_45
        exact absurd c_45 hno
      · have c_45 := cs_b0 c_45
        exact cx_thr (ix := 61) (ic := 63) (E := "java/lang/IndexOutOfBoundsException") (post := (q_tf_getD0 cI f0 a1 c1 r1 y1 k1 j1 ibc ilc igl ibk ifa ibd a2 a3 px md vz vw vh vk x y)) hx hb hst (hl.1.trans hml.symm) B.named hts hown hX hP0 hAe mw_570 mw_571 mw_572 oa_IOB fi_IOB hK hP hD hS hlocks (Nat.le_of_ble_eq_true rfl) (Nat.le_of_ble_eq_true rfl) (Nat.le_of_ble_eq_true rfl) (Nat.le_of_ble_eq_true rfl) (Nat.le_of_ble_eq_true rfl) (Nat.le_of_ble_eq_true rfl) d_TileForge_get_48 d_TileForge_get_51 d_TileForge_get_52 d_TileForge_get_55  (show _ = _ from rfl)
    · exact absurd c_27 hmd
  · have c_4 := cs_b0 c_4
    exact absurd (by decide) c_4
def q_tf_getC1 (cI : ClassId) (f0 : Nat) (a1 : Nat) (c1 : Nat) (r1 : Nat) (y1 : Nat) (k1 : Nat) (j1 : Nat) (ibc : Int32) (ilc : Int32) (igl : Int32) (ibk : Int32) (ifa : Int32) (ibd : Int32) (c2 : Nat) (c3 : Nat) (pxc : Nat → Int32) (mdc : Nat → Int32) (vzc : Int32) (vwc : Int32) (vhc : Int32) (vkc : Int32) (x : Int32) (y : Int32) : va_W → Prop := fun ww => ww = [(f0, .inr (8, [.ref a1, .ref c1, .ref r1, .ref y1, .ref k1, .ref j1, .int ibc, .int ilc, .int igl, .int ibk, .int ifa, .int ibd])), (c1, .inr (5, [.ref c2, .ref c3, .int vzc, .int vwc, .int vhc, .int vkc])), (c2, .inl (cI, 144, .inl pxc)), (c3, .inl (cI, 9, .inl mdc))]
set_option maxHeartbeats 4000000 in
set_option maxRecDepth 100000 in
theorem c_tf_getC1 (l : Launch) (hst : l.stackTraces = false) {D : va_G} {tys : List (ClassId × FieldType)} {cI : ClassId} (hcI : tys[0]? = some (cI, .int)) (f0 : Nat) (a1 : Nat) (c1 : Nat) (r1 : Nat) (y1 : Nat) (k1 : Nat) (j1 : Nat) (ibc : Int32) (ilc : Int32) (igl : Int32) (ibk : Int32) (ifa : Int32) (ibd : Int32) (c2 : Nat) (c3 : Nat) (pxc : Nat → Int32) (mdc : Nat → Int32) (vzc : Int32) (vwc : Int32) (vhc : Int32) (vkc : Int32) (x : Int32) (y : Int32) (hmd : vzc = 0) : CxE l D vwCl tys y_TileForge_get ws_TileForge_get ({ frames := 6, cells := 1, slots := 6, locals := 81 } : Room) [.ref f0, .int 1, .int x, .int y] [(f0, .inr (8, [.ref a1, .ref c1, .ref r1, .ref y1, .ref k1, .ref j1, .int ibc, .int ilc, .int igl, .int ibk, .int ifa, .int ibd])), (c1, .inr (5, [.ref c2, .ref c3, .int vzc, .int vwc, .int vhc, .int vkc])), (c2, .inl (cI, 144, .inl pxc)), (c3, .inl (cI, 9, .inl mdc))] (q_tf_getC1 cI f0 a1 c1 r1 y1 k1 j1 ibc ilc igl ibk ifa ibd c2 c3 pxc mdc vzc vwc vhc vkc x y) "java/lang/IllegalStateException" 1 6 := by
  intro sz
  refine cx_ofW (cc := prog_1_method_10_code) (maxL := 5) (ret := (some .int)) (by decide) rfl ?_
  intro p e s m args below meth c s₁ B hml hv
  obtain ⟨rfl, ⟨hsz, hP, hK, hD0, hN⟩, hX⟩ := hv
  have hx := B.exec
  have hb := B.bytes
  have hr := B.returns
  have hts := atoms_spec (ws := ws_TileForge_get) B.pre
  have hown : s.vm.findClass "TileForge" = some m.cls := findClass_of_methodNamed B.named
  have hlocks := B.notSynchronized
  subst hsz
  have hD := hD0.self (sz := s.heap.size)
  generalize hAe : va_A [(f0, .inr (8, [.ref a1, .ref c1, .ref r1, .ref y1, .ref k1, .ref j1, .int ibc, .int ilc, .int igl, .int ibk, .int ifa, .int ibd])), (c1, .inr (5, [.ref c2, .ref c3, .int vzc, .int vwc, .int vhc, .int vkc])), (c2, .inl (cI, 144, .inl pxc)), (c3, .inl (cI, 9, .inl mdc))] s.heap.size = A at hD ⊢
  have hA : ∀ q : Nat, s.heap.size ≤ q → A q := fun q h => by rw [← hAe]; exact Or.inr h
  have hS : va_S A s.heap s.heap [] := va_S.rf
  have hP : va_P D vwCl [(f0, .inr (8, [.ref a1, .ref c1, .ref r1, .ref y1, .ref k1, .ref j1, .int ibc, .int ilc, .int igl, .int ibk, .int ifa, .int ibd])), (c1, .inr (5, [.ref c2, .ref c3, .int vzc, .int vwc, .int vhc, .int vkc])), (c2, .inl (cI, 144, .inl pxc)), (c3, .inl (cI, 9, .inl mdc))] s.heap := hP
  have hP0 := hP
  have hl := lv_entry ([.ref f0, .int 1, .int x, .int y]) (n := 5) (Nat.le_of_ble_eq_true rfl)
  rw [lg_entry_eq]
  generalize (lg_sl ([.ref f0, .int 1, .int x, .int y]) ++ List.replicate (5 - (lg_sl ([.ref f0, .int 1, .int x, .int y])).length) Slot.unset).toArray = ls at hl ⊢
  have hl : lv_has ls 5 [(0, .ref f0), (1, .int 1), (2, .int x), (3, .int y)] := hl
  refine lv_iload_n hx hb d_TileForge_get_0 rfl (lv_at hl 1 rfl) ?_
  refine cs_Si (As := [.int 1]) (rest := []) (wr := [(f0, .inr (8, [.ref a1, .ref c1, .ref r1, .ref y1, .ref k1, .ref j1, .int ibc, .int ilc, .int igl, .int ibk, .int ifa, .int ibd])), (c1, .inr (5, [.ref c2, .ref c3, .int vzc, .int vwc, .int vhc, .int vkc])), (c2, .inl (cI, 144, .inl pxc)), (c3, .inl (cI, 9, .inl mdc))]) ⟨hx, hb, hml, hown, hts⟩ (c_isChoice l hcI 1) (va_cwS 1 hts (cs_gS mw_518 mw_519 mw_139 mw_77) rfl rfl rfl hd_TileForge_isChoice ⟨Nat.le_of_ble_eq_true rfl, Nat.le_of_ble_eq_true rfl⟩) hN hK hP hD hS hA [] [0, 1, 2, 3] rfl rfl rfl rfl (by decide) rfl rfl hl.1 (Nat.le_of_ble_eq_true rfl) d_TileForge_get_1 ⟨Nat.le_of_ble_eq_true rfl, Nat.le_of_ble_eq_true rfl⟩ (fun r1 w1 H locs hw hP hD hS => ?_)
  obtain ⟨rfl, rfl⟩ := hw
  have hP : va_P D vwCl [(f0, .inr (8, [.ref a1, .ref c1, .ref r1, .ref y1, .ref k1, .ref j1, .int ibc, .int ilc, .int igl, .int ibk, .int ifa, .int ibd])), (c1, .inr (5, [.ref c2, .ref c3, .int vzc, .int vwc, .int vhc, .int vkc])), (c2, .inl (cI, 144, .inl pxc)), (c3, .inl (cI, 9, .inl mdc))] H := hP
  have hD : va_D A [(f0, .inr (8, [.ref a1, .ref c1, .ref r1, .ref y1, .ref k1, .ref j1, .int ibc, .int ilc, .int igl, .int ibk, .int ifa, .int ibd])), (c1, .inr (5, [.ref c2, .ref c3, .int vzc, .int vwc, .int vhc, .int vkc])), (c2, .inl (cI, 144, .inl pxc)), (c3, .inl (cI, 9, .inl mdc))] := hD
  refine lv_if_ne (tgt := 15) hx hb d_TileForge_get_4 (by decide) (fun c_4 => ?_) (fun c_4 => ?_)
  · have c_4 := cs_b1 c_4
    refine lv_aload_n hx hb d_TileForge_get_15 rfl (lv_at hl 0 rfl) ?_
    refine lv_iload_n hx hb d_TileForge_get_16 rfl (lv_at hl 1 rfl) ?_
    refine cs_Vr (As := [.int 1]) (rest := []) (wr := [(c1, .inr (5, [.ref c2, .ref c3, .int vzc, .int vwc, .int vhc, .int vkc])), (c2, .inl (cI, 144, .inl pxc)), (c3, .inl (cI, 9, .inl mdc))]) ⟨hx, hb, hml, hown, hts⟩ (c_tf_choose1 l hcI f0 a1 c1 r1 y1 k1 j1 ibc ilc igl ibk ifa ibd) (cwV 1 hts (cs_gV mw_520 mw_521 mw_522 mw_139 mw_472) rfl rfl rfl ⟨rfl, hd_TileForge_choose⟩ ⟨Nat.le_of_ble_eq_true rfl, Nat.le_of_ble_eq_true rfl⟩) hN hK hP hD hS hA [0] [1, 2, 3] rfl rfl rfl rfl (by decide) (ci := 8) rfl rfl rfl rfl rfl hl.1 (Nat.le_of_ble_eq_true rfl) d_TileForge_get_17 ⟨Nat.le_of_ble_eq_true rfl, Nat.le_of_ble_eq_true rfl⟩ (fun r2 w1 H locs hw hP hD hS => ?_)
    obtain ⟨hrr, rfl⟩ := hw
    have hrr := hrr.symm
    subst hrr
    have hP : va_P D vwCl [(c1, .inr (5, [.ref c2, .ref c3, .int vzc, .int vwc, .int vhc, .int vkc])), (c2, .inl (cI, 144, .inl pxc)), (c3, .inl (cI, 9, .inl mdc)), (f0, .inr (8, [.ref a1, .ref c1, .ref r1, .ref y1, .ref k1, .ref j1, .int ibc, .int ilc, .int igl, .int ibk, .int ifa, .int ibd]))] H := hP
    have hD : va_D A [(c1, .inr (5, [.ref c2, .ref c3, .int vzc, .int vwc, .int vhc, .int vkc])), (c2, .inl (cI, 144, .inl pxc)), (c3, .inl (cI, 9, .inl mdc)), (f0, .inr (8, [.ref a1, .ref c1, .ref r1, .ref y1, .ref k1, .ref j1, .int ibc, .int ilc, .int igl, .int ibk, .int ifa, .int ibd]))] := hD
    refine lv_astore (lv' := [(4, .ref c1), (0, .ref f0), (1, .int 1), (2, .int x), (3, .int y)]) hx hb d_TileForge_get_20 hl (by decide) rfl (fun ls hl => ?_)
    refine lv_aload hx hb d_TileForge_get_22 (lv_at hl 0 rfl) ?_
    refine va_get (D := D) (ci := 5) (v := .int vzc) (C := "TileForge$Picture") (T := T_Picture) (N := 6) hx hb hts (cs_in in_Picture) hown hK hP 0 rfl rfl 2 (by decide) (hts _ (cs_m mw_523)) (fun _ h9 => h9) rfl d_TileForge_get_24 ?_
    refine lv_if_ne (tgt := 38) hx hb d_TileForge_get_27 (by decide) (fun c_27 => ?_) (fun c_27 => ?_)
    · exact absurd hmd c_27
    · have hP := hP.sub (ws' := [(f0, .inr (8, [.ref a1, .ref c1, .ref r1, .ref y1, .ref k1, .ref j1, .int ibc, .int ilc, .int igl, .int ibk, .int ifa, .int ibd])), (c1, .inr (5, [.ref c2, .ref c3, .int vzc, .int vwc, .int vhc, .int vkc])), (c2, .inl (cI, 144, .inl pxc)), (c3, .inl (cI, 9, .inl mdc))]) [3, 0, 1, 2] rfl
      have hD := hD.sub (ws' := [(f0, .inr (8, [.ref a1, .ref c1, .ref r1, .ref y1, .ref k1, .ref j1, .int ibc, .int ilc, .int igl, .int ibk, .int ifa, .int ibd])), (c1, .inr (5, [.ref c2, .ref c3, .int vzc, .int vwc, .int vhc, .int vkc])), (c2, .inl (cI, 144, .inl pxc)), (c3, .inl (cI, 9, .inl mdc))]) [3, 0, 1, 2] (by decide) rfl
      exact cx_thr (ix := 103) (ic := 105) (E := "java/lang/IllegalStateException") (post := (q_tf_getC1 cI f0 a1 c1 r1 y1 k1 j1 ibc ilc igl ibk ifa ibd c2 c3 pxc mdc vzc vwc vhc vkc x y)) hx hb hst (hl.1.trans hml.symm) B.named hts hown hX hP0 hAe mw_576 mw_577 mw_578 oa_ISE fi_ISE hK hP hD hS hlocks (Nat.le_of_ble_eq_true rfl) (Nat.le_of_ble_eq_true rfl) (Nat.le_of_ble_eq_true rfl) (Nat.le_of_ble_eq_true rfl) (Nat.le_of_ble_eq_true rfl) (Nat.le_of_ble_eq_true rfl) d_TileForge_get_30 d_TileForge_get_33 d_TileForge_get_34 d_TileForge_get_37  (show _ = _ from rfl)
  · have c_4 := cs_b0 c_4
    exact absurd (by decide) c_4
def q_tf_getD1 (cI : ClassId) (f0 : Nat) (a1 : Nat) (c1 : Nat) (r1 : Nat) (y1 : Nat) (k1 : Nat) (j1 : Nat) (ibc : Int32) (ilc : Int32) (igl : Int32) (ibk : Int32) (ifa : Int32) (ibd : Int32) (c2 : Nat) (c3 : Nat) (pxc : Nat → Int32) (mdc : Nat → Int32) (vzc : Int32) (vwc : Int32) (vhc : Int32) (vkc : Int32) (x : Int32) (y : Int32) : va_W → Prop := fun ww => ww = [(f0, .inr (8, [.ref a1, .ref c1, .ref r1, .ref y1, .ref k1, .ref j1, .int ibc, .int ilc, .int igl, .int ibk, .int ifa, .int ibd])), (c1, .inr (5, [.ref c2, .ref c3, .int vzc, .int vwc, .int vhc, .int vkc])), (c2, .inl (cI, 144, .inl pxc)), (c3, .inl (cI, 9, .inl mdc))]
set_option maxHeartbeats 4000000 in
set_option maxRecDepth 100000 in
theorem c_tf_getD1 (l : Launch) (hst : l.stackTraces = false) {D : va_G} {tys : List (ClassId × FieldType)} {cI : ClassId} (hcI : tys[0]? = some (cI, .int)) (f0 : Nat) (a1 : Nat) (c1 : Nat) (r1 : Nat) (y1 : Nat) (k1 : Nat) (j1 : Nat) (ibc : Int32) (ilc : Int32) (igl : Int32) (ibk : Int32) (ifa : Int32) (ibd : Int32) (c2 : Nat) (c3 : Nat) (pxc : Nat → Int32) (mdc : Nat → Int32) (vzc : Int32) (vwc : Int32) (vhc : Int32) (vkc : Int32) (x : Int32) (y : Int32) (hmd : ¬ vzc = 0) (hno : ¬ hasP vwc vhc x y) : CxE l D vwCl tys y_TileForge_get ws_TileForge_get ({ frames := 6, cells := 1, slots := 6, locals := 81 } : Room) [.ref f0, .int 1, .int x, .int y] [(f0, .inr (8, [.ref a1, .ref c1, .ref r1, .ref y1, .ref k1, .ref j1, .int ibc, .int ilc, .int igl, .int ibk, .int ifa, .int ibd])), (c1, .inr (5, [.ref c2, .ref c3, .int vzc, .int vwc, .int vhc, .int vkc])), (c2, .inl (cI, 144, .inl pxc)), (c3, .inl (cI, 9, .inl mdc))] (q_tf_getD1 cI f0 a1 c1 r1 y1 k1 j1 ibc ilc igl ibk ifa ibd c2 c3 pxc mdc vzc vwc vhc vkc x y) "java/lang/IndexOutOfBoundsException" 1 6 := by
  intro sz
  refine cx_ofW (cc := prog_1_method_10_code) (maxL := 5) (ret := (some .int)) (by decide) rfl ?_
  intro p e s m args below meth c s₁ B hml hv
  obtain ⟨rfl, ⟨hsz, hP, hK, hD0, hN⟩, hX⟩ := hv
  have hx := B.exec
  have hb := B.bytes
  have hr := B.returns
  have hts := atoms_spec (ws := ws_TileForge_get) B.pre
  have hown : s.vm.findClass "TileForge" = some m.cls := findClass_of_methodNamed B.named
  have hlocks := B.notSynchronized
  subst hsz
  have hD := hD0.self (sz := s.heap.size)
  generalize hAe : va_A [(f0, .inr (8, [.ref a1, .ref c1, .ref r1, .ref y1, .ref k1, .ref j1, .int ibc, .int ilc, .int igl, .int ibk, .int ifa, .int ibd])), (c1, .inr (5, [.ref c2, .ref c3, .int vzc, .int vwc, .int vhc, .int vkc])), (c2, .inl (cI, 144, .inl pxc)), (c3, .inl (cI, 9, .inl mdc))] s.heap.size = A at hD ⊢
  have hA : ∀ q : Nat, s.heap.size ≤ q → A q := fun q h => by rw [← hAe]; exact Or.inr h
  have hS : va_S A s.heap s.heap [] := va_S.rf
  have hP : va_P D vwCl [(f0, .inr (8, [.ref a1, .ref c1, .ref r1, .ref y1, .ref k1, .ref j1, .int ibc, .int ilc, .int igl, .int ibk, .int ifa, .int ibd])), (c1, .inr (5, [.ref c2, .ref c3, .int vzc, .int vwc, .int vhc, .int vkc])), (c2, .inl (cI, 144, .inl pxc)), (c3, .inl (cI, 9, .inl mdc))] s.heap := hP
  have hP0 := hP
  have hl := lv_entry ([.ref f0, .int 1, .int x, .int y]) (n := 5) (Nat.le_of_ble_eq_true rfl)
  rw [lg_entry_eq]
  generalize (lg_sl ([.ref f0, .int 1, .int x, .int y]) ++ List.replicate (5 - (lg_sl ([.ref f0, .int 1, .int x, .int y])).length) Slot.unset).toArray = ls at hl ⊢
  have hl : lv_has ls 5 [(0, .ref f0), (1, .int 1), (2, .int x), (3, .int y)] := hl
  refine lv_iload_n hx hb d_TileForge_get_0 rfl (lv_at hl 1 rfl) ?_
  refine cs_Si (As := [.int 1]) (rest := []) (wr := [(f0, .inr (8, [.ref a1, .ref c1, .ref r1, .ref y1, .ref k1, .ref j1, .int ibc, .int ilc, .int igl, .int ibk, .int ifa, .int ibd])), (c1, .inr (5, [.ref c2, .ref c3, .int vzc, .int vwc, .int vhc, .int vkc])), (c2, .inl (cI, 144, .inl pxc)), (c3, .inl (cI, 9, .inl mdc))]) ⟨hx, hb, hml, hown, hts⟩ (c_isChoice l hcI 1) (va_cwS 1 hts (cs_gS mw_518 mw_519 mw_139 mw_77) rfl rfl rfl hd_TileForge_isChoice ⟨Nat.le_of_ble_eq_true rfl, Nat.le_of_ble_eq_true rfl⟩) hN hK hP hD hS hA [] [0, 1, 2, 3] rfl rfl rfl rfl (by decide) rfl rfl hl.1 (Nat.le_of_ble_eq_true rfl) d_TileForge_get_1 ⟨Nat.le_of_ble_eq_true rfl, Nat.le_of_ble_eq_true rfl⟩ (fun r1 w1 H locs hw hP hD hS => ?_)
  obtain ⟨rfl, rfl⟩ := hw
  have hP : va_P D vwCl [(f0, .inr (8, [.ref a1, .ref c1, .ref r1, .ref y1, .ref k1, .ref j1, .int ibc, .int ilc, .int igl, .int ibk, .int ifa, .int ibd])), (c1, .inr (5, [.ref c2, .ref c3, .int vzc, .int vwc, .int vhc, .int vkc])), (c2, .inl (cI, 144, .inl pxc)), (c3, .inl (cI, 9, .inl mdc))] H := hP
  have hD : va_D A [(f0, .inr (8, [.ref a1, .ref c1, .ref r1, .ref y1, .ref k1, .ref j1, .int ibc, .int ilc, .int igl, .int ibk, .int ifa, .int ibd])), (c1, .inr (5, [.ref c2, .ref c3, .int vzc, .int vwc, .int vhc, .int vkc])), (c2, .inl (cI, 144, .inl pxc)), (c3, .inl (cI, 9, .inl mdc))] := hD
  refine lv_if_ne (tgt := 15) hx hb d_TileForge_get_4 (by decide) (fun c_4 => ?_) (fun c_4 => ?_)
  · have c_4 := cs_b1 c_4
    refine lv_aload_n hx hb d_TileForge_get_15 rfl (lv_at hl 0 rfl) ?_
    refine lv_iload_n hx hb d_TileForge_get_16 rfl (lv_at hl 1 rfl) ?_
    refine cs_Vr (As := [.int 1]) (rest := []) (wr := [(c1, .inr (5, [.ref c2, .ref c3, .int vzc, .int vwc, .int vhc, .int vkc])), (c2, .inl (cI, 144, .inl pxc)), (c3, .inl (cI, 9, .inl mdc))]) ⟨hx, hb, hml, hown, hts⟩ (c_tf_choose1 l hcI f0 a1 c1 r1 y1 k1 j1 ibc ilc igl ibk ifa ibd) (cwV 1 hts (cs_gV mw_520 mw_521 mw_522 mw_139 mw_472) rfl rfl rfl ⟨rfl, hd_TileForge_choose⟩ ⟨Nat.le_of_ble_eq_true rfl, Nat.le_of_ble_eq_true rfl⟩) hN hK hP hD hS hA [0] [1, 2, 3] rfl rfl rfl rfl (by decide) (ci := 8) rfl rfl rfl rfl rfl hl.1 (Nat.le_of_ble_eq_true rfl) d_TileForge_get_17 ⟨Nat.le_of_ble_eq_true rfl, Nat.le_of_ble_eq_true rfl⟩ (fun r2 w1 H locs hw hP hD hS => ?_)
    obtain ⟨hrr, rfl⟩ := hw
    have hrr := hrr.symm
    subst hrr
    have hP : va_P D vwCl [(c1, .inr (5, [.ref c2, .ref c3, .int vzc, .int vwc, .int vhc, .int vkc])), (c2, .inl (cI, 144, .inl pxc)), (c3, .inl (cI, 9, .inl mdc)), (f0, .inr (8, [.ref a1, .ref c1, .ref r1, .ref y1, .ref k1, .ref j1, .int ibc, .int ilc, .int igl, .int ibk, .int ifa, .int ibd]))] H := hP
    have hD : va_D A [(c1, .inr (5, [.ref c2, .ref c3, .int vzc, .int vwc, .int vhc, .int vkc])), (c2, .inl (cI, 144, .inl pxc)), (c3, .inl (cI, 9, .inl mdc)), (f0, .inr (8, [.ref a1, .ref c1, .ref r1, .ref y1, .ref k1, .ref j1, .int ibc, .int ilc, .int igl, .int ibk, .int ifa, .int ibd]))] := hD
    refine lv_astore (lv' := [(4, .ref c1), (0, .ref f0), (1, .int 1), (2, .int x), (3, .int y)]) hx hb d_TileForge_get_20 hl (by decide) rfl (fun ls hl => ?_)
    refine lv_aload hx hb d_TileForge_get_22 (lv_at hl 0 rfl) ?_
    refine va_get (D := D) (ci := 5) (v := .int vzc) (C := "TileForge$Picture") (T := T_Picture) (N := 6) hx hb hts (cs_in in_Picture) hown hK hP 0 rfl rfl 2 (by decide) (hts _ (cs_m mw_523)) (fun _ h9 => h9) rfl d_TileForge_get_24 ?_
    refine lv_if_ne (tgt := 38) hx hb d_TileForge_get_27 (by decide) (fun c_27 => ?_) (fun c_27 => ?_)
    · refine lv_aload hx hb d_TileForge_get_38 (lv_at hl 0 rfl) ?_
      refine lv_iload_n hx hb d_TileForge_get_40 rfl (lv_at hl 3 rfl) ?_
      refine lv_iload_n hx hb d_TileForge_get_41 rfl (lv_at hl 4 rfl) ?_
      refine cs_Vi (As := [.int x, .int y]) (rest := []) (wr := [(f0, .inr (8, [.ref a1, .ref c1, .ref r1, .ref y1, .ref k1, .ref j1, .int ibc, .int ilc, .int igl, .int ibk, .int ifa, .int ibd]))]) ⟨hx, hb, hml, hown, hts⟩ (c_pic_has l hcI c1 c2 c3 pxc mdc vzc vwc vhc vkc x y) (cwV 2 hts (cs_gV mw_503 mw_95 mw_96 mw_93 mw_91) rfl rfl rfl ⟨rfl, hd_Picture_has⟩ ⟨Nat.le_of_ble_eq_true rfl, Nat.le_of_ble_eq_true rfl⟩) hN hK hP hD hS hA [0, 1, 2] [3] rfl rfl rfl rfl (by decide) (ci := 5) rfl rfl rfl rfl rfl hl.1 (Nat.le_of_ble_eq_true rfl) d_TileForge_get_42 ⟨Nat.le_of_ble_eq_true rfl, Nat.le_of_ble_eq_true rfl⟩ (fun r3 w1 H locs hw hP hD hS => ?_)
      obtain ⟨rfl, rfl⟩ := hw
      have hP : va_P D vwCl [(f0, .inr (8, [.ref a1, .ref c1, .ref r1, .ref y1, .ref k1, .ref j1, .int ibc, .int ilc, .int igl, .int ibk, .int ifa, .int ibd])), (c1, .inr (5, [.ref c2, .ref c3, .int vzc, .int vwc, .int vhc, .int vkc])), (c2, .inl (cI, 144, .inl pxc)), (c3, .inl (cI, 9, .inl mdc))] H := hP
      have hD : va_D A [(f0, .inr (8, [.ref a1, .ref c1, .ref r1, .ref y1, .ref k1, .ref j1, .int ibc, .int ilc, .int igl, .int ibk, .int ifa, .int ibd])), (c1, .inr (5, [.ref c2, .ref c3, .int vzc, .int vwc, .int vhc, .int vkc])), (c2, .inl (cI, 144, .inl pxc)), (c3, .inl (cI, 9, .inl mdc))] := hD
      refine lv_if_ne (tgt := 56) hx hb d_TileForge_get_45 (by decide) (fun c_45 => ?_) (fun c_45 => ?_)
      · have c_45 := cs_b1 c_45
        exact absurd c_45 hno
      · have c_45 := cs_b0 c_45
        exact cx_thr (ix := 61) (ic := 63) (E := "java/lang/IndexOutOfBoundsException") (post := (q_tf_getD1 cI f0 a1 c1 r1 y1 k1 j1 ibc ilc igl ibk ifa ibd c2 c3 pxc mdc vzc vwc vhc vkc x y)) hx hb hst (hl.1.trans hml.symm) B.named hts hown hX hP0 hAe mw_570 mw_571 mw_572 oa_IOB fi_IOB hK hP hD hS hlocks (Nat.le_of_ble_eq_true rfl) (Nat.le_of_ble_eq_true rfl) (Nat.le_of_ble_eq_true rfl) (Nat.le_of_ble_eq_true rfl) (Nat.le_of_ble_eq_true rfl) (Nat.le_of_ble_eq_true rfl) d_TileForge_get_48 d_TileForge_get_51 d_TileForge_get_52 d_TileForge_get_55  (show _ = _ from rfl)
    · exact absurd c_27 hmd
  · have c_4 := cs_b0 c_4
    exact absurd (by decide) c_4
def q_tf_getC2 (cI : ClassId) (f0 : Nat) (a1 : Nat) (c1 : Nat) (r1 : Nat) (y1 : Nat) (k1 : Nat) (j1 : Nat) (ibc : Int32) (ilc : Int32) (igl : Int32) (ibk : Int32) (ifa : Int32) (ibd : Int32) (r2 : Nat) (r3 : Nat) (pxr : Nat → Int32) (mdr : Nat → Int32) (vzr : Int32) (vwr : Int32) (vhr : Int32) (vkr : Int32) (x : Int32) (y : Int32) : va_W → Prop := fun ww => ww = [(f0, .inr (8, [.ref a1, .ref c1, .ref r1, .ref y1, .ref k1, .ref j1, .int ibc, .int ilc, .int igl, .int ibk, .int ifa, .int ibd])), (r1, .inr (5, [.ref r2, .ref r3, .int vzr, .int vwr, .int vhr, .int vkr])), (r2, .inl (cI, 144, .inl pxr)), (r3, .inl (cI, 9, .inl mdr))]
set_option maxHeartbeats 4000000 in
set_option maxRecDepth 100000 in
theorem c_tf_getC2 (l : Launch) (hst : l.stackTraces = false) {D : va_G} {tys : List (ClassId × FieldType)} {cI : ClassId} (hcI : tys[0]? = some (cI, .int)) (f0 : Nat) (a1 : Nat) (c1 : Nat) (r1 : Nat) (y1 : Nat) (k1 : Nat) (j1 : Nat) (ibc : Int32) (ilc : Int32) (igl : Int32) (ibk : Int32) (ifa : Int32) (ibd : Int32) (r2 : Nat) (r3 : Nat) (pxr : Nat → Int32) (mdr : Nat → Int32) (vzr : Int32) (vwr : Int32) (vhr : Int32) (vkr : Int32) (x : Int32) (y : Int32) (hmd : vzr = 0) : CxE l D vwCl tys y_TileForge_get ws_TileForge_get ({ frames := 6, cells := 1, slots := 6, locals := 81 } : Room) [.ref f0, .int 2, .int x, .int y] [(f0, .inr (8, [.ref a1, .ref c1, .ref r1, .ref y1, .ref k1, .ref j1, .int ibc, .int ilc, .int igl, .int ibk, .int ifa, .int ibd])), (r1, .inr (5, [.ref r2, .ref r3, .int vzr, .int vwr, .int vhr, .int vkr])), (r2, .inl (cI, 144, .inl pxr)), (r3, .inl (cI, 9, .inl mdr))] (q_tf_getC2 cI f0 a1 c1 r1 y1 k1 j1 ibc ilc igl ibk ifa ibd r2 r3 pxr mdr vzr vwr vhr vkr x y) "java/lang/IllegalStateException" 1 6 := by
  intro sz
  refine cx_ofW (cc := prog_1_method_10_code) (maxL := 5) (ret := (some .int)) (by decide) rfl ?_
  intro p e s m args below meth c s₁ B hml hv
  obtain ⟨rfl, ⟨hsz, hP, hK, hD0, hN⟩, hX⟩ := hv
  have hx := B.exec
  have hb := B.bytes
  have hr := B.returns
  have hts := atoms_spec (ws := ws_TileForge_get) B.pre
  have hown : s.vm.findClass "TileForge" = some m.cls := findClass_of_methodNamed B.named
  have hlocks := B.notSynchronized
  subst hsz
  have hD := hD0.self (sz := s.heap.size)
  generalize hAe : va_A [(f0, .inr (8, [.ref a1, .ref c1, .ref r1, .ref y1, .ref k1, .ref j1, .int ibc, .int ilc, .int igl, .int ibk, .int ifa, .int ibd])), (r1, .inr (5, [.ref r2, .ref r3, .int vzr, .int vwr, .int vhr, .int vkr])), (r2, .inl (cI, 144, .inl pxr)), (r3, .inl (cI, 9, .inl mdr))] s.heap.size = A at hD ⊢
  have hA : ∀ q : Nat, s.heap.size ≤ q → A q := fun q h => by rw [← hAe]; exact Or.inr h
  have hS : va_S A s.heap s.heap [] := va_S.rf
  have hP : va_P D vwCl [(f0, .inr (8, [.ref a1, .ref c1, .ref r1, .ref y1, .ref k1, .ref j1, .int ibc, .int ilc, .int igl, .int ibk, .int ifa, .int ibd])), (r1, .inr (5, [.ref r2, .ref r3, .int vzr, .int vwr, .int vhr, .int vkr])), (r2, .inl (cI, 144, .inl pxr)), (r3, .inl (cI, 9, .inl mdr))] s.heap := hP
  have hP0 := hP
  have hl := lv_entry ([.ref f0, .int 2, .int x, .int y]) (n := 5) (Nat.le_of_ble_eq_true rfl)
  rw [lg_entry_eq]
  generalize (lg_sl ([.ref f0, .int 2, .int x, .int y]) ++ List.replicate (5 - (lg_sl ([.ref f0, .int 2, .int x, .int y])).length) Slot.unset).toArray = ls at hl ⊢
  have hl : lv_has ls 5 [(0, .ref f0), (1, .int 2), (2, .int x), (3, .int y)] := hl
  refine lv_iload_n hx hb d_TileForge_get_0 rfl (lv_at hl 1 rfl) ?_
  refine cs_Si (As := [.int 2]) (rest := []) (wr := [(f0, .inr (8, [.ref a1, .ref c1, .ref r1, .ref y1, .ref k1, .ref j1, .int ibc, .int ilc, .int igl, .int ibk, .int ifa, .int ibd])), (r1, .inr (5, [.ref r2, .ref r3, .int vzr, .int vwr, .int vhr, .int vkr])), (r2, .inl (cI, 144, .inl pxr)), (r3, .inl (cI, 9, .inl mdr))]) ⟨hx, hb, hml, hown, hts⟩ (c_isChoice l hcI 2) (va_cwS 1 hts (cs_gS mw_518 mw_519 mw_139 mw_77) rfl rfl rfl hd_TileForge_isChoice ⟨Nat.le_of_ble_eq_true rfl, Nat.le_of_ble_eq_true rfl⟩) hN hK hP hD hS hA [] [0, 1, 2, 3] rfl rfl rfl rfl (by decide) rfl rfl hl.1 (Nat.le_of_ble_eq_true rfl) d_TileForge_get_1 ⟨Nat.le_of_ble_eq_true rfl, Nat.le_of_ble_eq_true rfl⟩ (fun r1 w1 H locs hw hP hD hS => ?_)
  obtain ⟨rfl, rfl⟩ := hw
  have hP : va_P D vwCl [(f0, .inr (8, [.ref a1, .ref c1, .ref r1, .ref y1, .ref k1, .ref j1, .int ibc, .int ilc, .int igl, .int ibk, .int ifa, .int ibd])), (r1, .inr (5, [.ref r2, .ref r3, .int vzr, .int vwr, .int vhr, .int vkr])), (r2, .inl (cI, 144, .inl pxr)), (r3, .inl (cI, 9, .inl mdr))] H := hP
  have hD : va_D A [(f0, .inr (8, [.ref a1, .ref c1, .ref r1, .ref y1, .ref k1, .ref j1, .int ibc, .int ilc, .int igl, .int ibk, .int ifa, .int ibd])), (r1, .inr (5, [.ref r2, .ref r3, .int vzr, .int vwr, .int vhr, .int vkr])), (r2, .inl (cI, 144, .inl pxr)), (r3, .inl (cI, 9, .inl mdr))] := hD
  refine lv_if_ne (tgt := 15) hx hb d_TileForge_get_4 (by decide) (fun c_4 => ?_) (fun c_4 => ?_)
  · have c_4 := cs_b1 c_4
    refine lv_aload_n hx hb d_TileForge_get_15 rfl (lv_at hl 0 rfl) ?_
    refine lv_iload_n hx hb d_TileForge_get_16 rfl (lv_at hl 1 rfl) ?_
    refine cs_Vr (As := [.int 2]) (rest := []) (wr := [(r1, .inr (5, [.ref r2, .ref r3, .int vzr, .int vwr, .int vhr, .int vkr])), (r2, .inl (cI, 144, .inl pxr)), (r3, .inl (cI, 9, .inl mdr))]) ⟨hx, hb, hml, hown, hts⟩ (c_tf_choose2 l hcI f0 a1 c1 r1 y1 k1 j1 ibc ilc igl ibk ifa ibd) (cwV 1 hts (cs_gV mw_520 mw_521 mw_522 mw_139 mw_472) rfl rfl rfl ⟨rfl, hd_TileForge_choose⟩ ⟨Nat.le_of_ble_eq_true rfl, Nat.le_of_ble_eq_true rfl⟩) hN hK hP hD hS hA [0] [1, 2, 3] rfl rfl rfl rfl (by decide) (ci := 8) rfl rfl rfl rfl rfl hl.1 (Nat.le_of_ble_eq_true rfl) d_TileForge_get_17 ⟨Nat.le_of_ble_eq_true rfl, Nat.le_of_ble_eq_true rfl⟩ (fun r2 w1 H locs hw hP hD hS => ?_)
    obtain ⟨hrr, rfl⟩ := hw
    have hrr := hrr.symm
    subst hrr
    have hP : va_P D vwCl [(r1, .inr (5, [.ref r2, .ref r3, .int vzr, .int vwr, .int vhr, .int vkr])), (r2, .inl (cI, 144, .inl pxr)), (r3, .inl (cI, 9, .inl mdr)), (f0, .inr (8, [.ref a1, .ref c1, .ref r1, .ref y1, .ref k1, .ref j1, .int ibc, .int ilc, .int igl, .int ibk, .int ifa, .int ibd]))] H := hP
    have hD : va_D A [(r1, .inr (5, [.ref r2, .ref r3, .int vzr, .int vwr, .int vhr, .int vkr])), (r2, .inl (cI, 144, .inl pxr)), (r3, .inl (cI, 9, .inl mdr)), (f0, .inr (8, [.ref a1, .ref c1, .ref r1, .ref y1, .ref k1, .ref j1, .int ibc, .int ilc, .int igl, .int ibk, .int ifa, .int ibd]))] := hD
    refine lv_astore (lv' := [(4, .ref r1), (0, .ref f0), (1, .int 2), (2, .int x), (3, .int y)]) hx hb d_TileForge_get_20 hl (by decide) rfl (fun ls hl => ?_)
    refine lv_aload hx hb d_TileForge_get_22 (lv_at hl 0 rfl) ?_
    refine va_get (D := D) (ci := 5) (v := .int vzr) (C := "TileForge$Picture") (T := T_Picture) (N := 6) hx hb hts (cs_in in_Picture) hown hK hP 0 rfl rfl 2 (by decide) (hts _ (cs_m mw_523)) (fun _ h9 => h9) rfl d_TileForge_get_24 ?_
    refine lv_if_ne (tgt := 38) hx hb d_TileForge_get_27 (by decide) (fun c_27 => ?_) (fun c_27 => ?_)
    · exact absurd hmd c_27
    · have hP := hP.sub (ws' := [(f0, .inr (8, [.ref a1, .ref c1, .ref r1, .ref y1, .ref k1, .ref j1, .int ibc, .int ilc, .int igl, .int ibk, .int ifa, .int ibd])), (r1, .inr (5, [.ref r2, .ref r3, .int vzr, .int vwr, .int vhr, .int vkr])), (r2, .inl (cI, 144, .inl pxr)), (r3, .inl (cI, 9, .inl mdr))]) [3, 0, 1, 2] rfl
      have hD := hD.sub (ws' := [(f0, .inr (8, [.ref a1, .ref c1, .ref r1, .ref y1, .ref k1, .ref j1, .int ibc, .int ilc, .int igl, .int ibk, .int ifa, .int ibd])), (r1, .inr (5, [.ref r2, .ref r3, .int vzr, .int vwr, .int vhr, .int vkr])), (r2, .inl (cI, 144, .inl pxr)), (r3, .inl (cI, 9, .inl mdr))]) [3, 0, 1, 2] (by decide) rfl
      exact cx_thr (ix := 103) (ic := 105) (E := "java/lang/IllegalStateException") (post := (q_tf_getC2 cI f0 a1 c1 r1 y1 k1 j1 ibc ilc igl ibk ifa ibd r2 r3 pxr mdr vzr vwr vhr vkr x y)) hx hb hst (hl.1.trans hml.symm) B.named hts hown hX hP0 hAe mw_576 mw_577 mw_578 oa_ISE fi_ISE hK hP hD hS hlocks (Nat.le_of_ble_eq_true rfl) (Nat.le_of_ble_eq_true rfl) (Nat.le_of_ble_eq_true rfl) (Nat.le_of_ble_eq_true rfl) (Nat.le_of_ble_eq_true rfl) (Nat.le_of_ble_eq_true rfl) d_TileForge_get_30 d_TileForge_get_33 d_TileForge_get_34 d_TileForge_get_37  (show _ = _ from rfl)
  · have c_4 := cs_b0 c_4
    exact absurd (by decide) c_4
def q_tf_getD2 (cI : ClassId) (f0 : Nat) (a1 : Nat) (c1 : Nat) (r1 : Nat) (y1 : Nat) (k1 : Nat) (j1 : Nat) (ibc : Int32) (ilc : Int32) (igl : Int32) (ibk : Int32) (ifa : Int32) (ibd : Int32) (r2 : Nat) (r3 : Nat) (pxr : Nat → Int32) (mdr : Nat → Int32) (vzr : Int32) (vwr : Int32) (vhr : Int32) (vkr : Int32) (x : Int32) (y : Int32) : va_W → Prop := fun ww => ww = [(f0, .inr (8, [.ref a1, .ref c1, .ref r1, .ref y1, .ref k1, .ref j1, .int ibc, .int ilc, .int igl, .int ibk, .int ifa, .int ibd])), (r1, .inr (5, [.ref r2, .ref r3, .int vzr, .int vwr, .int vhr, .int vkr])), (r2, .inl (cI, 144, .inl pxr)), (r3, .inl (cI, 9, .inl mdr))]
set_option maxHeartbeats 4000000 in
set_option maxRecDepth 100000 in
theorem c_tf_getD2 (l : Launch) (hst : l.stackTraces = false) {D : va_G} {tys : List (ClassId × FieldType)} {cI : ClassId} (hcI : tys[0]? = some (cI, .int)) (f0 : Nat) (a1 : Nat) (c1 : Nat) (r1 : Nat) (y1 : Nat) (k1 : Nat) (j1 : Nat) (ibc : Int32) (ilc : Int32) (igl : Int32) (ibk : Int32) (ifa : Int32) (ibd : Int32) (r2 : Nat) (r3 : Nat) (pxr : Nat → Int32) (mdr : Nat → Int32) (vzr : Int32) (vwr : Int32) (vhr : Int32) (vkr : Int32) (x : Int32) (y : Int32) (hmd : ¬ vzr = 0) (hno : ¬ hasP vwr vhr x y) : CxE l D vwCl tys y_TileForge_get ws_TileForge_get ({ frames := 6, cells := 1, slots := 6, locals := 81 } : Room) [.ref f0, .int 2, .int x, .int y] [(f0, .inr (8, [.ref a1, .ref c1, .ref r1, .ref y1, .ref k1, .ref j1, .int ibc, .int ilc, .int igl, .int ibk, .int ifa, .int ibd])), (r1, .inr (5, [.ref r2, .ref r3, .int vzr, .int vwr, .int vhr, .int vkr])), (r2, .inl (cI, 144, .inl pxr)), (r3, .inl (cI, 9, .inl mdr))] (q_tf_getD2 cI f0 a1 c1 r1 y1 k1 j1 ibc ilc igl ibk ifa ibd r2 r3 pxr mdr vzr vwr vhr vkr x y) "java/lang/IndexOutOfBoundsException" 1 6 := by
  intro sz
  refine cx_ofW (cc := prog_1_method_10_code) (maxL := 5) (ret := (some .int)) (by decide) rfl ?_
  intro p e s m args below meth c s₁ B hml hv
  obtain ⟨rfl, ⟨hsz, hP, hK, hD0, hN⟩, hX⟩ := hv
  have hx := B.exec
  have hb := B.bytes
  have hr := B.returns
  have hts := atoms_spec (ws := ws_TileForge_get) B.pre
  have hown : s.vm.findClass "TileForge" = some m.cls := findClass_of_methodNamed B.named
  have hlocks := B.notSynchronized
  subst hsz
  have hD := hD0.self (sz := s.heap.size)
  generalize hAe : va_A [(f0, .inr (8, [.ref a1, .ref c1, .ref r1, .ref y1, .ref k1, .ref j1, .int ibc, .int ilc, .int igl, .int ibk, .int ifa, .int ibd])), (r1, .inr (5, [.ref r2, .ref r3, .int vzr, .int vwr, .int vhr, .int vkr])), (r2, .inl (cI, 144, .inl pxr)), (r3, .inl (cI, 9, .inl mdr))] s.heap.size = A at hD ⊢
  have hA : ∀ q : Nat, s.heap.size ≤ q → A q := fun q h => by rw [← hAe]; exact Or.inr h
  have hS : va_S A s.heap s.heap [] := va_S.rf
  have hP : va_P D vwCl [(f0, .inr (8, [.ref a1, .ref c1, .ref r1, .ref y1, .ref k1, .ref j1, .int ibc, .int ilc, .int igl, .int ibk, .int ifa, .int ibd])), (r1, .inr (5, [.ref r2, .ref r3, .int vzr, .int vwr, .int vhr, .int vkr])), (r2, .inl (cI, 144, .inl pxr)), (r3, .inl (cI, 9, .inl mdr))] s.heap := hP
  have hP0 := hP
  have hl := lv_entry ([.ref f0, .int 2, .int x, .int y]) (n := 5) (Nat.le_of_ble_eq_true rfl)
  rw [lg_entry_eq]
  generalize (lg_sl ([.ref f0, .int 2, .int x, .int y]) ++ List.replicate (5 - (lg_sl ([.ref f0, .int 2, .int x, .int y])).length) Slot.unset).toArray = ls at hl ⊢
  have hl : lv_has ls 5 [(0, .ref f0), (1, .int 2), (2, .int x), (3, .int y)] := hl
  refine lv_iload_n hx hb d_TileForge_get_0 rfl (lv_at hl 1 rfl) ?_
  refine cs_Si (As := [.int 2]) (rest := []) (wr := [(f0, .inr (8, [.ref a1, .ref c1, .ref r1, .ref y1, .ref k1, .ref j1, .int ibc, .int ilc, .int igl, .int ibk, .int ifa, .int ibd])), (r1, .inr (5, [.ref r2, .ref r3, .int vzr, .int vwr, .int vhr, .int vkr])), (r2, .inl (cI, 144, .inl pxr)), (r3, .inl (cI, 9, .inl mdr))]) ⟨hx, hb, hml, hown, hts⟩ (c_isChoice l hcI 2) (va_cwS 1 hts (cs_gS mw_518 mw_519 mw_139 mw_77) rfl rfl rfl hd_TileForge_isChoice ⟨Nat.le_of_ble_eq_true rfl, Nat.le_of_ble_eq_true rfl⟩) hN hK hP hD hS hA [] [0, 1, 2, 3] rfl rfl rfl rfl (by decide) rfl rfl hl.1 (Nat.le_of_ble_eq_true rfl) d_TileForge_get_1 ⟨Nat.le_of_ble_eq_true rfl, Nat.le_of_ble_eq_true rfl⟩ (fun r1 w1 H locs hw hP hD hS => ?_)
  obtain ⟨rfl, rfl⟩ := hw
  have hP : va_P D vwCl [(f0, .inr (8, [.ref a1, .ref c1, .ref r1, .ref y1, .ref k1, .ref j1, .int ibc, .int ilc, .int igl, .int ibk, .int ifa, .int ibd])), (r1, .inr (5, [.ref r2, .ref r3, .int vzr, .int vwr, .int vhr, .int vkr])), (r2, .inl (cI, 144, .inl pxr)), (r3, .inl (cI, 9, .inl mdr))] H := hP
  have hD : va_D A [(f0, .inr (8, [.ref a1, .ref c1, .ref r1, .ref y1, .ref k1, .ref j1, .int ibc, .int ilc, .int igl, .int ibk, .int ifa, .int ibd])), (r1, .inr (5, [.ref r2, .ref r3, .int vzr, .int vwr, .int vhr, .int vkr])), (r2, .inl (cI, 144, .inl pxr)), (r3, .inl (cI, 9, .inl mdr))] := hD
  refine lv_if_ne (tgt := 15) hx hb d_TileForge_get_4 (by decide) (fun c_4 => ?_) (fun c_4 => ?_)
  · have c_4 := cs_b1 c_4
    refine lv_aload_n hx hb d_TileForge_get_15 rfl (lv_at hl 0 rfl) ?_
    refine lv_iload_n hx hb d_TileForge_get_16 rfl (lv_at hl 1 rfl) ?_
    refine cs_Vr (As := [.int 2]) (rest := []) (wr := [(r1, .inr (5, [.ref r2, .ref r3, .int vzr, .int vwr, .int vhr, .int vkr])), (r2, .inl (cI, 144, .inl pxr)), (r3, .inl (cI, 9, .inl mdr))]) ⟨hx, hb, hml, hown, hts⟩ (c_tf_choose2 l hcI f0 a1 c1 r1 y1 k1 j1 ibc ilc igl ibk ifa ibd) (cwV 1 hts (cs_gV mw_520 mw_521 mw_522 mw_139 mw_472) rfl rfl rfl ⟨rfl, hd_TileForge_choose⟩ ⟨Nat.le_of_ble_eq_true rfl, Nat.le_of_ble_eq_true rfl⟩) hN hK hP hD hS hA [0] [1, 2, 3] rfl rfl rfl rfl (by decide) (ci := 8) rfl rfl rfl rfl rfl hl.1 (Nat.le_of_ble_eq_true rfl) d_TileForge_get_17 ⟨Nat.le_of_ble_eq_true rfl, Nat.le_of_ble_eq_true rfl⟩ (fun r2 w1 H locs hw hP hD hS => ?_)
    obtain ⟨hrr, rfl⟩ := hw
    have hrr := hrr.symm
    subst hrr
    have hP : va_P D vwCl [(r1, .inr (5, [.ref r2, .ref r3, .int vzr, .int vwr, .int vhr, .int vkr])), (r2, .inl (cI, 144, .inl pxr)), (r3, .inl (cI, 9, .inl mdr)), (f0, .inr (8, [.ref a1, .ref c1, .ref r1, .ref y1, .ref k1, .ref j1, .int ibc, .int ilc, .int igl, .int ibk, .int ifa, .int ibd]))] H := hP
    have hD : va_D A [(r1, .inr (5, [.ref r2, .ref r3, .int vzr, .int vwr, .int vhr, .int vkr])), (r2, .inl (cI, 144, .inl pxr)), (r3, .inl (cI, 9, .inl mdr)), (f0, .inr (8, [.ref a1, .ref c1, .ref r1, .ref y1, .ref k1, .ref j1, .int ibc, .int ilc, .int igl, .int ibk, .int ifa, .int ibd]))] := hD
    refine lv_astore (lv' := [(4, .ref r1), (0, .ref f0), (1, .int 2), (2, .int x), (3, .int y)]) hx hb d_TileForge_get_20 hl (by decide) rfl (fun ls hl => ?_)
    refine lv_aload hx hb d_TileForge_get_22 (lv_at hl 0 rfl) ?_
    refine va_get (D := D) (ci := 5) (v := .int vzr) (C := "TileForge$Picture") (T := T_Picture) (N := 6) hx hb hts (cs_in in_Picture) hown hK hP 0 rfl rfl 2 (by decide) (hts _ (cs_m mw_523)) (fun _ h9 => h9) rfl d_TileForge_get_24 ?_
    refine lv_if_ne (tgt := 38) hx hb d_TileForge_get_27 (by decide) (fun c_27 => ?_) (fun c_27 => ?_)
    · refine lv_aload hx hb d_TileForge_get_38 (lv_at hl 0 rfl) ?_
      refine lv_iload_n hx hb d_TileForge_get_40 rfl (lv_at hl 3 rfl) ?_
      refine lv_iload_n hx hb d_TileForge_get_41 rfl (lv_at hl 4 rfl) ?_
      refine cs_Vi (As := [.int x, .int y]) (rest := []) (wr := [(f0, .inr (8, [.ref a1, .ref c1, .ref r1, .ref y1, .ref k1, .ref j1, .int ibc, .int ilc, .int igl, .int ibk, .int ifa, .int ibd]))]) ⟨hx, hb, hml, hown, hts⟩ (c_pic_has l hcI r1 r2 r3 pxr mdr vzr vwr vhr vkr x y) (cwV 2 hts (cs_gV mw_503 mw_95 mw_96 mw_93 mw_91) rfl rfl rfl ⟨rfl, hd_Picture_has⟩ ⟨Nat.le_of_ble_eq_true rfl, Nat.le_of_ble_eq_true rfl⟩) hN hK hP hD hS hA [0, 1, 2] [3] rfl rfl rfl rfl (by decide) (ci := 5) rfl rfl rfl rfl rfl hl.1 (Nat.le_of_ble_eq_true rfl) d_TileForge_get_42 ⟨Nat.le_of_ble_eq_true rfl, Nat.le_of_ble_eq_true rfl⟩ (fun r3 w1 H locs hw hP hD hS => ?_)
      obtain ⟨rfl, rfl⟩ := hw
      have hP : va_P D vwCl [(f0, .inr (8, [.ref a1, .ref c1, .ref r1, .ref y1, .ref k1, .ref j1, .int ibc, .int ilc, .int igl, .int ibk, .int ifa, .int ibd])), (r1, .inr (5, [.ref r2, .ref r3, .int vzr, .int vwr, .int vhr, .int vkr])), (r2, .inl (cI, 144, .inl pxr)), (r3, .inl (cI, 9, .inl mdr))] H := hP
      have hD : va_D A [(f0, .inr (8, [.ref a1, .ref c1, .ref r1, .ref y1, .ref k1, .ref j1, .int ibc, .int ilc, .int igl, .int ibk, .int ifa, .int ibd])), (r1, .inr (5, [.ref r2, .ref r3, .int vzr, .int vwr, .int vhr, .int vkr])), (r2, .inl (cI, 144, .inl pxr)), (r3, .inl (cI, 9, .inl mdr))] := hD
      refine lv_if_ne (tgt := 56) hx hb d_TileForge_get_45 (by decide) (fun c_45 => ?_) (fun c_45 => ?_)
      · have c_45 := cs_b1 c_45
        exact absurd c_45 hno
      · have c_45 := cs_b0 c_45
        exact cx_thr (ix := 61) (ic := 63) (E := "java/lang/IndexOutOfBoundsException") (post := (q_tf_getD2 cI f0 a1 c1 r1 y1 k1 j1 ibc ilc igl ibk ifa ibd r2 r3 pxr mdr vzr vwr vhr vkr x y)) hx hb hst (hl.1.trans hml.symm) B.named hts hown hX hP0 hAe mw_570 mw_571 mw_572 oa_IOB fi_IOB hK hP hD hS hlocks (Nat.le_of_ble_eq_true rfl) (Nat.le_of_ble_eq_true rfl) (Nat.le_of_ble_eq_true rfl) (Nat.le_of_ble_eq_true rfl) (Nat.le_of_ble_eq_true rfl) (Nat.le_of_ble_eq_true rfl) d_TileForge_get_48 d_TileForge_get_51 d_TileForge_get_52 d_TileForge_get_55  (show _ = _ from rfl)
    · exact absurd c_27 hmd
  · have c_4 := cs_b0 c_4
    exact absurd (by decide) c_4
def q_tf_apartB (cI : ClassId) (f0 : Nat) (a1 : Nat) (c1 : Nat) (r1 : Nat) (y1 : Nat) (k1 : Nat) (j1 : Nat) (ibc : Int32) (ilc : Int32) (igl : Int32) (ibk : Int32) (ifa : Int32) (ibd : Int32) (o1 : Int32) (o2 : Int32) : va_W → Prop := fun ww => ww = [(f0, .inr (8, [.ref a1, .ref c1, .ref r1, .ref y1, .ref k1, .ref j1, .int ibc, .int ilc, .int igl, .int ibk, .int ifa, .int ibd]))]
set_option maxHeartbeats 4000000 in
set_option maxRecDepth 100000 in
theorem c_tf_apartB (l : Launch) (hst : l.stackTraces = false) {D : va_G} {tys : List (ClassId × FieldType)} {cI : ClassId} (hcI : tys[0]? = some (cI, .int)) (f0 : Nat) (a1 : Nat) (c1 : Nat) (r1 : Nat) (y1 : Nat) (k1 : Nat) (j1 : Nat) (ibc : Int32) (ilc : Int32) (igl : Int32) (ibk : Int32) (ifa : Int32) (ibd : Int32) (o1 : Int32) (o2 : Int32) (hbad : ¬ ((¬ o1 < 0 ∧ ¬ 2 < o1) ∧ (¬ o2 < 0 ∧ ¬ 2 < o2))) : CxE l D vwCl tys y_TileForge_apart ws_TileForge_apart ({ frames := 6, cells := 1, slots := 6, locals := 81 } : Room) [.ref f0, .int o1, .int o2] [(f0, .inr (8, [.ref a1, .ref c1, .ref r1, .ref y1, .ref k1, .ref j1, .int ibc, .int ilc, .int igl, .int ibk, .int ifa, .int ibd]))] (q_tf_apartB cI f0 a1 c1 r1 y1 k1 j1 ibc ilc igl ibk ifa ibd o1 o2) "java/lang/IllegalArgumentException" 1 6 := by
  intro sz
  refine cx_ofW (cc := prog_1_method_11_code) (maxL := 5) (ret := (some .double)) (by decide) rfl ?_
  intro p e s m args below meth c s₁ B hml hv
  obtain ⟨rfl, ⟨hsz, hP, hK, hD0, hN⟩, hX⟩ := hv
  have hx := B.exec
  have hb := B.bytes
  have hr := B.returns
  have hts := atoms_spec (ws := ws_TileForge_apart) B.pre
  have hown : s.vm.findClass "TileForge" = some m.cls := findClass_of_methodNamed B.named
  have hlocks := B.notSynchronized
  subst hsz
  have hD := hD0.self (sz := s.heap.size)
  generalize hAe : va_A [(f0, .inr (8, [.ref a1, .ref c1, .ref r1, .ref y1, .ref k1, .ref j1, .int ibc, .int ilc, .int igl, .int ibk, .int ifa, .int ibd]))] s.heap.size = A at hD ⊢
  have hA : ∀ q : Nat, s.heap.size ≤ q → A q := fun q h => by rw [← hAe]; exact Or.inr h
  have hS : va_S A s.heap s.heap [] := va_S.rf
  have hP : va_P D vwCl [(f0, .inr (8, [.ref a1, .ref c1, .ref r1, .ref y1, .ref k1, .ref j1, .int ibc, .int ilc, .int igl, .int ibk, .int ifa, .int ibd]))] s.heap := hP
  have hP0 := hP
  have hl := lv_entry ([.ref f0, .int o1, .int o2]) (n := 5) (Nat.le_of_ble_eq_true rfl)
  rw [lg_entry_eq]
  generalize (lg_sl ([.ref f0, .int o1, .int o2]) ++ List.replicate (5 - (lg_sl ([.ref f0, .int o1, .int o2])).length) Slot.unset).toArray = ls at hl ⊢
  have hl : lv_has ls 5 [(0, .ref f0), (1, .int o1), (2, .int o2)] := hl
  refine lv_iload_n hx hb d_TileForge_apart_0 rfl (lv_at hl 1 rfl) ?_
  refine cs_Si (As := [.int o1]) (rest := []) (wr := [(f0, .inr (8, [.ref a1, .ref c1, .ref r1, .ref y1, .ref k1, .ref j1, .int ibc, .int ilc, .int igl, .int ibk, .int ifa, .int ibd]))]) ⟨hx, hb, hml, hown, hts⟩ (c_isChoice l hcI o1) (va_cwS 1 hts (cs_gS mw_518 mw_519 mw_139 mw_77) rfl rfl rfl hd_TileForge_isChoice ⟨Nat.le_of_ble_eq_true rfl, Nat.le_of_ble_eq_true rfl⟩) hN hK hP hD hS hA [] [0] rfl rfl rfl rfl (by decide) rfl rfl hl.1 (Nat.le_of_ble_eq_true rfl) d_TileForge_apart_1 ⟨Nat.le_of_ble_eq_true rfl, Nat.le_of_ble_eq_true rfl⟩ (fun r1 w1 H locs hw hP hD hS => ?_)
  obtain ⟨rfl, rfl⟩ := hw
  have hP : va_P D vwCl [(f0, .inr (8, [.ref a1, .ref c1, .ref r1, .ref y1, .ref k1, .ref j1, .int ibc, .int ilc, .int igl, .int ibk, .int ifa, .int ibd]))] H := hP
  have hD : va_D A [(f0, .inr (8, [.ref a1, .ref c1, .ref r1, .ref y1, .ref k1, .ref j1, .int ibc, .int ilc, .int igl, .int ibk, .int ifa, .int ibd]))] := hD
  refine lv_if_eq (tgt := 14) hx hb d_TileForge_apart_4 (by decide) (fun c_4 => ?_) (fun c_4 => ?_)
  · have c_4 := cs_b0 c_4
    exact cx_thr (ix := 51) (ic := 53) (E := "java/lang/IllegalArgumentException") (post := (q_tf_apartB cI f0 a1 c1 r1 y1 k1 j1 ibc ilc igl ibk ifa ibd o1 o2)) hx hb hst (hl.1.trans hml.symm) B.named hts hown hX hP0 hAe mw_567 mw_568 mw_569 oa_IAE fi_IAE hK hP hD hS hlocks (Nat.le_of_ble_eq_true rfl) (Nat.le_of_ble_eq_true rfl) (Nat.le_of_ble_eq_true rfl) (Nat.le_of_ble_eq_true rfl) (Nat.le_of_ble_eq_true rfl) (Nat.le_of_ble_eq_true rfl) d_TileForge_apart_14 d_TileForge_apart_17 d_TileForge_apart_18 d_TileForge_apart_21  (show _ = _ from rfl)
  · have c_4 := cs_b1 c_4
    refine lv_iload_n hx hb d_TileForge_apart_7 rfl (lv_at hl 2 rfl) ?_
    refine cs_Si (As := [.int o2]) (rest := []) (wr := [(f0, .inr (8, [.ref a1, .ref c1, .ref r1, .ref y1, .ref k1, .ref j1, .int ibc, .int ilc, .int igl, .int ibk, .int ifa, .int ibd]))]) ⟨hx, hb, hml, hown, hts⟩ (c_isChoice l hcI o2) (va_cwS 1 hts (cs_gS mw_518 mw_519 mw_139 mw_77) rfl rfl rfl hd_TileForge_isChoice ⟨Nat.le_of_ble_eq_true rfl, Nat.le_of_ble_eq_true rfl⟩) hN hK hP hD hS hA [] [0] rfl rfl rfl rfl (by decide) rfl rfl hl.1 (Nat.le_of_ble_eq_true rfl) d_TileForge_apart_8 ⟨Nat.le_of_ble_eq_true rfl, Nat.le_of_ble_eq_true rfl⟩ (fun r2 w1 H locs hw hP hD hS => ?_)
    obtain ⟨rfl, rfl⟩ := hw
    have hP : va_P D vwCl [(f0, .inr (8, [.ref a1, .ref c1, .ref r1, .ref y1, .ref k1, .ref j1, .int ibc, .int ilc, .int igl, .int ibk, .int ifa, .int ibd]))] H := hP
    have hD : va_D A [(f0, .inr (8, [.ref a1, .ref c1, .ref r1, .ref y1, .ref k1, .ref j1, .int ibc, .int ilc, .int igl, .int ibk, .int ifa, .int ibd]))] := hD
    refine lv_if_ne (tgt := 22) hx hb d_TileForge_apart_11 (by decide) (fun c_11 => ?_) (fun c_11 => ?_)
    · have c_11 := cs_b1 c_11
      exact absurd (⟨c_4, c_11⟩ : (¬ o1 < 0 ∧ ¬ 2 < o1) ∧ (¬ o2 < 0 ∧ ¬ 2 < o2)) hbad
    · have c_11 := cs_b0 c_11
      exact cx_thr (ix := 51) (ic := 53) (E := "java/lang/IllegalArgumentException") (post := (q_tf_apartB cI f0 a1 c1 r1 y1 k1 j1 ibc ilc igl ibk ifa ibd o1 o2)) hx hb hst (hl.1.trans hml.symm) B.named hts hown hX hP0 hAe mw_567 mw_568 mw_569 oa_IAE fi_IAE hK hP hD hS hlocks (Nat.le_of_ble_eq_true rfl) (Nat.le_of_ble_eq_true rfl) (Nat.le_of_ble_eq_true rfl) (Nat.le_of_ble_eq_true rfl) (Nat.le_of_ble_eq_true rfl) (Nat.le_of_ble_eq_true rfl) d_TileForge_apart_14 d_TileForge_apart_17 d_TileForge_apart_18 d_TileForge_apart_21  (show _ = _ from rfl)
def q_tf_apartC00 (cI : ClassId) (f0 : Nat) (a1 : Nat) (c1 : Nat) (r1 : Nat) (y1 : Nat) (k1 : Nat) (j1 : Nat) (ibc : Int32) (ilc : Int32) (igl : Int32) (ibk : Int32) (ifa : Int32) (ibd : Int32) (a2 : Nat) (a3 : Nat) (px : Nat → Int32) (md : Nat → Int32) (vz : Int32) (vw : Int32) (vh : Int32) (vk : Int32) : va_W → Prop := fun ww => ww = [(f0, .inr (8, [.ref a1, .ref c1, .ref r1, .ref y1, .ref k1, .ref j1, .int ibc, .int ilc, .int igl, .int ibk, .int ifa, .int ibd])), (a1, .inr (5, [.ref a2, .ref a3, .int vz, .int vw, .int vh, .int vk])), (a2, .inl (cI, 144, .inl px)), (a3, .inl (cI, 9, .inl md))]
set_option maxHeartbeats 4000000 in
set_option maxRecDepth 100000 in
theorem c_tf_apartC00 (l : Launch) (hst : l.stackTraces = false) {D : va_G} {tys : List (ClassId × FieldType)} {cI : ClassId} (hcI : tys[0]? = some (cI, .int)) (f0 : Nat) (a1 : Nat) (c1 : Nat) (r1 : Nat) (y1 : Nat) (k1 : Nat) (j1 : Nat) (ibc : Int32) (ilc : Int32) (igl : Int32) (ibk : Int32) (ifa : Int32) (ibd : Int32) (a2 : Nat) (a3 : Nat) (px : Nat → Int32) (md : Nat → Int32) (vz : Int32) (vw : Int32) (vh : Int32) (vk : Int32) (hbad : ¬ (¬ vz = 0 ∧ ¬ vz = 0)) : CxE l D vwCl tys y_TileForge_apart ws_TileForge_apart ({ frames := 6, cells := 1, slots := 6, locals := 81 } : Room) [.ref f0, .int 0, .int 0] [(f0, .inr (8, [.ref a1, .ref c1, .ref r1, .ref y1, .ref k1, .ref j1, .int ibc, .int ilc, .int igl, .int ibk, .int ifa, .int ibd])), (a1, .inr (5, [.ref a2, .ref a3, .int vz, .int vw, .int vh, .int vk])), (a2, .inl (cI, 144, .inl px)), (a3, .inl (cI, 9, .inl md))] (q_tf_apartC00 cI f0 a1 c1 r1 y1 k1 j1 ibc ilc igl ibk ifa ibd a2 a3 px md vz vw vh vk) "java/lang/IllegalStateException" 1 6 := by
  intro sz
  refine cx_ofW (cc := prog_1_method_11_code) (maxL := 5) (ret := (some .double)) (by decide) rfl ?_
  intro p e s m args below meth c s₁ B hml hv
  obtain ⟨rfl, ⟨hsz, hP, hK, hD0, hN⟩, hX⟩ := hv
  have hx := B.exec
  have hb := B.bytes
  have hr := B.returns
  have hts := atoms_spec (ws := ws_TileForge_apart) B.pre
  have hown : s.vm.findClass "TileForge" = some m.cls := findClass_of_methodNamed B.named
  have hlocks := B.notSynchronized
  subst hsz
  have hD := hD0.self (sz := s.heap.size)
  generalize hAe : va_A [(f0, .inr (8, [.ref a1, .ref c1, .ref r1, .ref y1, .ref k1, .ref j1, .int ibc, .int ilc, .int igl, .int ibk, .int ifa, .int ibd])), (a1, .inr (5, [.ref a2, .ref a3, .int vz, .int vw, .int vh, .int vk])), (a2, .inl (cI, 144, .inl px)), (a3, .inl (cI, 9, .inl md))] s.heap.size = A at hD ⊢
  have hA : ∀ q : Nat, s.heap.size ≤ q → A q := fun q h => by rw [← hAe]; exact Or.inr h
  have hS : va_S A s.heap s.heap [] := va_S.rf
  have hP : va_P D vwCl [(f0, .inr (8, [.ref a1, .ref c1, .ref r1, .ref y1, .ref k1, .ref j1, .int ibc, .int ilc, .int igl, .int ibk, .int ifa, .int ibd])), (a1, .inr (5, [.ref a2, .ref a3, .int vz, .int vw, .int vh, .int vk])), (a2, .inl (cI, 144, .inl px)), (a3, .inl (cI, 9, .inl md))] s.heap := hP
  have hP0 := hP
  have hl := lv_entry ([.ref f0, .int 0, .int 0]) (n := 5) (Nat.le_of_ble_eq_true rfl)
  rw [lg_entry_eq]
  generalize (lg_sl ([.ref f0, .int 0, .int 0]) ++ List.replicate (5 - (lg_sl ([.ref f0, .int 0, .int 0])).length) Slot.unset).toArray = ls at hl ⊢
  have hl : lv_has ls 5 [(0, .ref f0), (1, .int 0), (2, .int 0)] := hl
  refine lv_iload_n hx hb d_TileForge_apart_0 rfl (lv_at hl 1 rfl) ?_
  refine cs_Si (As := [.int 0]) (rest := []) (wr := [(f0, .inr (8, [.ref a1, .ref c1, .ref r1, .ref y1, .ref k1, .ref j1, .int ibc, .int ilc, .int igl, .int ibk, .int ifa, .int ibd])), (a1, .inr (5, [.ref a2, .ref a3, .int vz, .int vw, .int vh, .int vk])), (a2, .inl (cI, 144, .inl px)), (a3, .inl (cI, 9, .inl md))]) ⟨hx, hb, hml, hown, hts⟩ (c_isChoice l hcI 0) (va_cwS 1 hts (cs_gS mw_518 mw_519 mw_139 mw_77) rfl rfl rfl hd_TileForge_isChoice ⟨Nat.le_of_ble_eq_true rfl, Nat.le_of_ble_eq_true rfl⟩) hN hK hP hD hS hA [] [0, 1, 2, 3] rfl rfl rfl rfl (by decide) rfl rfl hl.1 (Nat.le_of_ble_eq_true rfl) d_TileForge_apart_1 ⟨Nat.le_of_ble_eq_true rfl, Nat.le_of_ble_eq_true rfl⟩ (fun r1 w1 H locs hw hP hD hS => ?_)
  obtain ⟨rfl, rfl⟩ := hw
  have hP : va_P D vwCl [(f0, .inr (8, [.ref a1, .ref c1, .ref r1, .ref y1, .ref k1, .ref j1, .int ibc, .int ilc, .int igl, .int ibk, .int ifa, .int ibd])), (a1, .inr (5, [.ref a2, .ref a3, .int vz, .int vw, .int vh, .int vk])), (a2, .inl (cI, 144, .inl px)), (a3, .inl (cI, 9, .inl md))] H := hP
  have hD : va_D A [(f0, .inr (8, [.ref a1, .ref c1, .ref r1, .ref y1, .ref k1, .ref j1, .int ibc, .int ilc, .int igl, .int ibk, .int ifa, .int ibd])), (a1, .inr (5, [.ref a2, .ref a3, .int vz, .int vw, .int vh, .int vk])), (a2, .inl (cI, 144, .inl px)), (a3, .inl (cI, 9, .inl md))] := hD
  refine lv_if_eq (tgt := 14) hx hb d_TileForge_apart_4 (by decide) (fun c_4 => ?_) (fun c_4 => ?_)
  · have c_4 := cs_b0 c_4
    exact absurd (by decide) c_4
  · have c_4 := cs_b1 c_4
    refine lv_iload_n hx hb d_TileForge_apart_7 rfl (lv_at hl 2 rfl) ?_
    refine cs_Si (As := [.int 0]) (rest := []) (wr := [(f0, .inr (8, [.ref a1, .ref c1, .ref r1, .ref y1, .ref k1, .ref j1, .int ibc, .int ilc, .int igl, .int ibk, .int ifa, .int ibd])), (a1, .inr (5, [.ref a2, .ref a3, .int vz, .int vw, .int vh, .int vk])), (a2, .inl (cI, 144, .inl px)), (a3, .inl (cI, 9, .inl md))]) ⟨hx, hb, hml, hown, hts⟩ (c_isChoice l hcI 0) (va_cwS 1 hts (cs_gS mw_518 mw_519 mw_139 mw_77) rfl rfl rfl hd_TileForge_isChoice ⟨Nat.le_of_ble_eq_true rfl, Nat.le_of_ble_eq_true rfl⟩) hN hK hP hD hS hA [] [0, 1, 2, 3] rfl rfl rfl rfl (by decide) rfl rfl hl.1 (Nat.le_of_ble_eq_true rfl) d_TileForge_apart_8 ⟨Nat.le_of_ble_eq_true rfl, Nat.le_of_ble_eq_true rfl⟩ (fun r2 w1 H locs hw hP hD hS => ?_)
    obtain ⟨rfl, rfl⟩ := hw
    have hP : va_P D vwCl [(f0, .inr (8, [.ref a1, .ref c1, .ref r1, .ref y1, .ref k1, .ref j1, .int ibc, .int ilc, .int igl, .int ibk, .int ifa, .int ibd])), (a1, .inr (5, [.ref a2, .ref a3, .int vz, .int vw, .int vh, .int vk])), (a2, .inl (cI, 144, .inl px)), (a3, .inl (cI, 9, .inl md))] H := hP
    have hD : va_D A [(f0, .inr (8, [.ref a1, .ref c1, .ref r1, .ref y1, .ref k1, .ref j1, .int ibc, .int ilc, .int igl, .int ibk, .int ifa, .int ibd])), (a1, .inr (5, [.ref a2, .ref a3, .int vz, .int vw, .int vh, .int vk])), (a2, .inl (cI, 144, .inl px)), (a3, .inl (cI, 9, .inl md))] := hD
    refine lv_if_ne (tgt := 22) hx hb d_TileForge_apart_11 (by decide) (fun c_11 => ?_) (fun c_11 => ?_)
    · have c_11 := cs_b1 c_11
      refine lv_aload_n hx hb d_TileForge_apart_22 rfl (lv_at hl 0 rfl) ?_
      refine lv_iload_n hx hb d_TileForge_apart_23 rfl (lv_at hl 1 rfl) ?_
      refine cs_Vr (As := [.int 0]) (rest := []) (wr := [(a1, .inr (5, [.ref a2, .ref a3, .int vz, .int vw, .int vh, .int vk])), (a2, .inl (cI, 144, .inl px)), (a3, .inl (cI, 9, .inl md))]) ⟨hx, hb, hml, hown, hts⟩ (c_tf_choose0 l hcI f0 a1 c1 r1 y1 k1 j1 ibc ilc igl ibk ifa ibd) (cwV 1 hts (cs_gV mw_520 mw_521 mw_522 mw_139 mw_472) rfl rfl rfl ⟨rfl, hd_TileForge_choose⟩ ⟨Nat.le_of_ble_eq_true rfl, Nat.le_of_ble_eq_true rfl⟩) hN hK hP hD hS hA [0] [1, 2, 3] rfl rfl rfl rfl (by decide) (ci := 8) rfl rfl rfl rfl rfl hl.1 (Nat.le_of_ble_eq_true rfl) d_TileForge_apart_24 ⟨Nat.le_of_ble_eq_true rfl, Nat.le_of_ble_eq_true rfl⟩ (fun r3 w1 H locs hw hP hD hS => ?_)
      obtain ⟨hrr, rfl⟩ := hw
      have hrr := hrr.symm
      subst hrr
      have hP : va_P D vwCl [(a1, .inr (5, [.ref a2, .ref a3, .int vz, .int vw, .int vh, .int vk])), (a2, .inl (cI, 144, .inl px)), (a3, .inl (cI, 9, .inl md)), (f0, .inr (8, [.ref a1, .ref c1, .ref r1, .ref y1, .ref k1, .ref j1, .int ibc, .int ilc, .int igl, .int ibk, .int ifa, .int ibd]))] H := hP
      have hD : va_D A [(a1, .inr (5, [.ref a2, .ref a3, .int vz, .int vw, .int vh, .int vk])), (a2, .inl (cI, 144, .inl px)), (a3, .inl (cI, 9, .inl md)), (f0, .inr (8, [.ref a1, .ref c1, .ref r1, .ref y1, .ref k1, .ref j1, .int ibc, .int ilc, .int igl, .int ibk, .int ifa, .int ibd]))] := hD
      refine lv_astore_n (lv' := [(3, .ref a1), (0, .ref f0), (1, .int 0), (2, .int 0)]) hx hb d_TileForge_apart_27 rfl hl (by decide) rfl (fun ls hl => ?_)
      refine lv_aload_n hx hb d_TileForge_apart_28 rfl (lv_at hl 1 rfl) ?_
      refine lv_iload_n hx hb d_TileForge_apart_29 rfl (lv_at hl 3 rfl) ?_
      refine cs_Vr (As := [.int 0]) (rest := []) (wr := [(a1, .inr (5, [.ref a2, .ref a3, .int vz, .int vw, .int vh, .int vk])), (a2, .inl (cI, 144, .inl px)), (a3, .inl (cI, 9, .inl md))]) ⟨hx, hb, hml, hown, hts⟩ (c_tf_choose0 l hcI f0 a1 c1 r1 y1 k1 j1 ibc ilc igl ibk ifa ibd) (cwV 1 hts (cs_gV mw_520 mw_521 mw_522 mw_139 mw_472) rfl rfl rfl ⟨rfl, hd_TileForge_choose⟩ ⟨Nat.le_of_ble_eq_true rfl, Nat.le_of_ble_eq_true rfl⟩) hN hK hP hD hS hA [3] [0, 1, 2] rfl rfl rfl rfl (by decide) (ci := 8) rfl rfl rfl rfl rfl hl.1 (Nat.le_of_ble_eq_true rfl) d_TileForge_apart_30 ⟨Nat.le_of_ble_eq_true rfl, Nat.le_of_ble_eq_true rfl⟩ (fun r4 w1 H locs hw hP hD hS => ?_)
      obtain ⟨hrr, rfl⟩ := hw
      have hrr := hrr.symm
      subst hrr
      have hP : va_P D vwCl [(a1, .inr (5, [.ref a2, .ref a3, .int vz, .int vw, .int vh, .int vk])), (a2, .inl (cI, 144, .inl px)), (a3, .inl (cI, 9, .inl md)), (f0, .inr (8, [.ref a1, .ref c1, .ref r1, .ref y1, .ref k1, .ref j1, .int ibc, .int ilc, .int igl, .int ibk, .int ifa, .int ibd]))] H := hP
      have hD : va_D A [(a1, .inr (5, [.ref a2, .ref a3, .int vz, .int vw, .int vh, .int vk])), (a2, .inl (cI, 144, .inl px)), (a3, .inl (cI, 9, .inl md)), (f0, .inr (8, [.ref a1, .ref c1, .ref r1, .ref y1, .ref k1, .ref j1, .int ibc, .int ilc, .int igl, .int ibk, .int ifa, .int ibd]))] := hD
      refine lv_astore (lv' := [(4, .ref a1), (3, .ref a1), (0, .ref f0), (1, .int 0), (2, .int 0)]) hx hb d_TileForge_apart_33 hl (by decide) rfl (fun ls hl => ?_)
      refine lv_aload_n hx hb d_TileForge_apart_35 rfl (lv_at hl 1 rfl) ?_
      refine va_get (D := D) (ci := 5) (v := .int vz) (C := "TileForge$Picture") (T := T_Picture) (N := 6) hx hb hts (cs_in in_Picture) hown hK hP 0 rfl rfl 2 (by decide) (hts _ (cs_m mw_523)) (fun _ h9 => h9) rfl d_TileForge_apart_36 ?_
      refine lv_if_eq (tgt := 50) hx hb d_TileForge_apart_39 (by decide) (fun c_39 => ?_) (fun c_39 => ?_)
      · have hP := hP.sub (ws' := [(f0, .inr (8, [.ref a1, .ref c1, .ref r1, .ref y1, .ref k1, .ref j1, .int ibc, .int ilc, .int igl, .int ibk, .int ifa, .int ibd])), (a1, .inr (5, [.ref a2, .ref a3, .int vz, .int vw, .int vh, .int vk])), (a2, .inl (cI, 144, .inl px)), (a3, .inl (cI, 9, .inl md))]) [3, 0, 1, 2] rfl
        have hD := hD.sub (ws' := [(f0, .inr (8, [.ref a1, .ref c1, .ref r1, .ref y1, .ref k1, .ref j1, .int ibc, .int ilc, .int igl, .int ibk, .int ifa, .int ibd])), (a1, .inr (5, [.ref a2, .ref a3, .int vz, .int vw, .int vh, .int vk])), (a2, .inl (cI, 144, .inl px)), (a3, .inl (cI, 9, .inl md))]) [3, 0, 1, 2] (by decide) rfl
        exact cx_thr (ix := 103) (ic := 105) (E := "java/lang/IllegalStateException") (post := (q_tf_apartC00 cI f0 a1 c1 r1 y1 k1 j1 ibc ilc igl ibk ifa ibd a2 a3 px md vz vw vh vk)) hx hb hst (hl.1.trans hml.symm) B.named hts hown hX hP0 hAe mw_576 mw_577 mw_578 oa_ISE fi_ISE hK hP hD hS hlocks (Nat.le_of_ble_eq_true rfl) (Nat.le_of_ble_eq_true rfl) (Nat.le_of_ble_eq_true rfl) (Nat.le_of_ble_eq_true rfl) (Nat.le_of_ble_eq_true rfl) (Nat.le_of_ble_eq_true rfl) d_TileForge_apart_50 d_TileForge_apart_53 d_TileForge_apart_54 d_TileForge_apart_57  (show _ = _ from rfl)
      · refine lv_aload hx hb d_TileForge_apart_42 (lv_at hl 0 rfl) ?_
        refine va_get (D := D) (ci := 5) (v := .int vz) (C := "TileForge$Picture") (T := T_Picture) (N := 6) hx hb hts (cs_in in_Picture) hown hK hP 0 rfl rfl 2 (by decide) (hts _ (cs_m mw_523)) (fun _ h9 => h9) rfl d_TileForge_apart_44 ?_
        refine lv_if_ne (tgt := 58) hx hb d_TileForge_apart_47 (by decide) (fun c_47 => ?_) (fun c_47 => ?_)
        · exact absurd (⟨c_39, c_47⟩ : ¬ vz = 0 ∧ ¬ vz = 0) hbad
        · have hP := hP.sub (ws' := [(f0, .inr (8, [.ref a1, .ref c1, .ref r1, .ref y1, .ref k1, .ref j1, .int ibc, .int ilc, .int igl, .int ibk, .int ifa, .int ibd])), (a1, .inr (5, [.ref a2, .ref a3, .int vz, .int vw, .int vh, .int vk])), (a2, .inl (cI, 144, .inl px)), (a3, .inl (cI, 9, .inl md))]) [3, 0, 1, 2] rfl
          have hD := hD.sub (ws' := [(f0, .inr (8, [.ref a1, .ref c1, .ref r1, .ref y1, .ref k1, .ref j1, .int ibc, .int ilc, .int igl, .int ibk, .int ifa, .int ibd])), (a1, .inr (5, [.ref a2, .ref a3, .int vz, .int vw, .int vh, .int vk])), (a2, .inl (cI, 144, .inl px)), (a3, .inl (cI, 9, .inl md))]) [3, 0, 1, 2] (by decide) rfl
          exact cx_thr (ix := 103) (ic := 105) (E := "java/lang/IllegalStateException") (post := (q_tf_apartC00 cI f0 a1 c1 r1 y1 k1 j1 ibc ilc igl ibk ifa ibd a2 a3 px md vz vw vh vk)) hx hb hst (hl.1.trans hml.symm) B.named hts hown hX hP0 hAe mw_576 mw_577 mw_578 oa_ISE fi_ISE hK hP hD hS hlocks (Nat.le_of_ble_eq_true rfl) (Nat.le_of_ble_eq_true rfl) (Nat.le_of_ble_eq_true rfl) (Nat.le_of_ble_eq_true rfl) (Nat.le_of_ble_eq_true rfl) (Nat.le_of_ble_eq_true rfl) d_TileForge_apart_50 d_TileForge_apart_53 d_TileForge_apart_54 d_TileForge_apart_57  (show _ = _ from rfl)
    · have c_11 := cs_b0 c_11
      exact absurd (by decide) c_11
def q_tf_apartC01 (cI : ClassId) (f0 : Nat) (a1 : Nat) (c1 : Nat) (r1 : Nat) (y1 : Nat) (k1 : Nat) (j1 : Nat) (ibc : Int32) (ilc : Int32) (igl : Int32) (ibk : Int32) (ifa : Int32) (ibd : Int32) (a2 : Nat) (a3 : Nat) (px : Nat → Int32) (md : Nat → Int32) (vz : Int32) (vw : Int32) (vh : Int32) (vk : Int32) (c2 : Nat) (c3 : Nat) (pxc : Nat → Int32) (mdc : Nat → Int32) (vzc : Int32) (vwc : Int32) (vhc : Int32) (vkc : Int32) : va_W → Prop := fun ww => ww = [(f0, .inr (8, [.ref a1, .ref c1, .ref r1, .ref y1, .ref k1, .ref j1, .int ibc, .int ilc, .int igl, .int ibk, .int ifa, .int ibd])), (a1, .inr (5, [.ref a2, .ref a3, .int vz, .int vw, .int vh, .int vk])), (a2, .inl (cI, 144, .inl px)), (a3, .inl (cI, 9, .inl md)), (c1, .inr (5, [.ref c2, .ref c3, .int vzc, .int vwc, .int vhc, .int vkc])), (c2, .inl (cI, 144, .inl pxc)), (c3, .inl (cI, 9, .inl mdc))]
set_option maxHeartbeats 4000000 in
set_option maxRecDepth 100000 in
theorem c_tf_apartC01 (l : Launch) (hst : l.stackTraces = false) {D : va_G} {tys : List (ClassId × FieldType)} {cI : ClassId} (hcI : tys[0]? = some (cI, .int)) (f0 : Nat) (a1 : Nat) (c1 : Nat) (r1 : Nat) (y1 : Nat) (k1 : Nat) (j1 : Nat) (ibc : Int32) (ilc : Int32) (igl : Int32) (ibk : Int32) (ifa : Int32) (ibd : Int32) (a2 : Nat) (a3 : Nat) (px : Nat → Int32) (md : Nat → Int32) (vz : Int32) (vw : Int32) (vh : Int32) (vk : Int32) (c2 : Nat) (c3 : Nat) (pxc : Nat → Int32) (mdc : Nat → Int32) (vzc : Int32) (vwc : Int32) (vhc : Int32) (vkc : Int32) (hbad : ¬ (¬ vz = 0 ∧ ¬ vzc = 0)) : CxE l D vwCl tys y_TileForge_apart ws_TileForge_apart ({ frames := 6, cells := 1, slots := 6, locals := 81 } : Room) [.ref f0, .int 0, .int 1] [(f0, .inr (8, [.ref a1, .ref c1, .ref r1, .ref y1, .ref k1, .ref j1, .int ibc, .int ilc, .int igl, .int ibk, .int ifa, .int ibd])), (a1, .inr (5, [.ref a2, .ref a3, .int vz, .int vw, .int vh, .int vk])), (a2, .inl (cI, 144, .inl px)), (a3, .inl (cI, 9, .inl md)), (c1, .inr (5, [.ref c2, .ref c3, .int vzc, .int vwc, .int vhc, .int vkc])), (c2, .inl (cI, 144, .inl pxc)), (c3, .inl (cI, 9, .inl mdc))] (q_tf_apartC01 cI f0 a1 c1 r1 y1 k1 j1 ibc ilc igl ibk ifa ibd a2 a3 px md vz vw vh vk c2 c3 pxc mdc vzc vwc vhc vkc) "java/lang/IllegalStateException" 1 6 := by
  intro sz
  refine cx_ofW (cc := prog_1_method_11_code) (maxL := 5) (ret := (some .double)) (by decide) rfl ?_
  intro p e s m args below meth c s₁ B hml hv
  obtain ⟨rfl, ⟨hsz, hP, hK, hD0, hN⟩, hX⟩ := hv
  have hx := B.exec
  have hb := B.bytes
  have hr := B.returns
  have hts := atoms_spec (ws := ws_TileForge_apart) B.pre
  have hown : s.vm.findClass "TileForge" = some m.cls := findClass_of_methodNamed B.named
  have hlocks := B.notSynchronized
  subst hsz
  have hD := hD0.self (sz := s.heap.size)
  generalize hAe : va_A [(f0, .inr (8, [.ref a1, .ref c1, .ref r1, .ref y1, .ref k1, .ref j1, .int ibc, .int ilc, .int igl, .int ibk, .int ifa, .int ibd])), (a1, .inr (5, [.ref a2, .ref a3, .int vz, .int vw, .int vh, .int vk])), (a2, .inl (cI, 144, .inl px)), (a3, .inl (cI, 9, .inl md)), (c1, .inr (5, [.ref c2, .ref c3, .int vzc, .int vwc, .int vhc, .int vkc])), (c2, .inl (cI, 144, .inl pxc)), (c3, .inl (cI, 9, .inl mdc))] s.heap.size = A at hD ⊢
  have hA : ∀ q : Nat, s.heap.size ≤ q → A q := fun q h => by rw [← hAe]; exact Or.inr h
  have hS : va_S A s.heap s.heap [] := va_S.rf
  have hP : va_P D vwCl [(f0, .inr (8, [.ref a1, .ref c1, .ref r1, .ref y1, .ref k1, .ref j1, .int ibc, .int ilc, .int igl, .int ibk, .int ifa, .int ibd])), (a1, .inr (5, [.ref a2, .ref a3, .int vz, .int vw, .int vh, .int vk])), (a2, .inl (cI, 144, .inl px)), (a3, .inl (cI, 9, .inl md)), (c1, .inr (5, [.ref c2, .ref c3, .int vzc, .int vwc, .int vhc, .int vkc])), (c2, .inl (cI, 144, .inl pxc)), (c3, .inl (cI, 9, .inl mdc))] s.heap := hP
  have hP0 := hP
  have hl := lv_entry ([.ref f0, .int 0, .int 1]) (n := 5) (Nat.le_of_ble_eq_true rfl)
  rw [lg_entry_eq]
  generalize (lg_sl ([.ref f0, .int 0, .int 1]) ++ List.replicate (5 - (lg_sl ([.ref f0, .int 0, .int 1])).length) Slot.unset).toArray = ls at hl ⊢
  have hl : lv_has ls 5 [(0, .ref f0), (1, .int 0), (2, .int 1)] := hl
  refine lv_iload_n hx hb d_TileForge_apart_0 rfl (lv_at hl 1 rfl) ?_
  refine cs_Si (As := [.int 0]) (rest := []) (wr := [(f0, .inr (8, [.ref a1, .ref c1, .ref r1, .ref y1, .ref k1, .ref j1, .int ibc, .int ilc, .int igl, .int ibk, .int ifa, .int ibd])), (a1, .inr (5, [.ref a2, .ref a3, .int vz, .int vw, .int vh, .int vk])), (a2, .inl (cI, 144, .inl px)), (a3, .inl (cI, 9, .inl md)), (c1, .inr (5, [.ref c2, .ref c3, .int vzc, .int vwc, .int vhc, .int vkc])), (c2, .inl (cI, 144, .inl pxc)), (c3, .inl (cI, 9, .inl mdc))]) ⟨hx, hb, hml, hown, hts⟩ (c_isChoice l hcI 0) (va_cwS 1 hts (cs_gS mw_518 mw_519 mw_139 mw_77) rfl rfl rfl hd_TileForge_isChoice ⟨Nat.le_of_ble_eq_true rfl, Nat.le_of_ble_eq_true rfl⟩) hN hK hP hD hS hA [] [0, 1, 2, 3, 4, 5, 6] rfl rfl rfl rfl (by decide) rfl rfl hl.1 (Nat.le_of_ble_eq_true rfl) d_TileForge_apart_1 ⟨Nat.le_of_ble_eq_true rfl, Nat.le_of_ble_eq_true rfl⟩ (fun r1 w1 H locs hw hP hD hS => ?_)
  obtain ⟨rfl, rfl⟩ := hw
  have hP : va_P D vwCl [(f0, .inr (8, [.ref a1, .ref c1, .ref r1, .ref y1, .ref k1, .ref j1, .int ibc, .int ilc, .int igl, .int ibk, .int ifa, .int ibd])), (a1, .inr (5, [.ref a2, .ref a3, .int vz, .int vw, .int vh, .int vk])), (a2, .inl (cI, 144, .inl px)), (a3, .inl (cI, 9, .inl md)), (c1, .inr (5, [.ref c2, .ref c3, .int vzc, .int vwc, .int vhc, .int vkc])), (c2, .inl (cI, 144, .inl pxc)), (c3, .inl (cI, 9, .inl mdc))] H := hP
  have hD : va_D A [(f0, .inr (8, [.ref a1, .ref c1, .ref r1, .ref y1, .ref k1, .ref j1, .int ibc, .int ilc, .int igl, .int ibk, .int ifa, .int ibd])), (a1, .inr (5, [.ref a2, .ref a3, .int vz, .int vw, .int vh, .int vk])), (a2, .inl (cI, 144, .inl px)), (a3, .inl (cI, 9, .inl md)), (c1, .inr (5, [.ref c2, .ref c3, .int vzc, .int vwc, .int vhc, .int vkc])), (c2, .inl (cI, 144, .inl pxc)), (c3, .inl (cI, 9, .inl mdc))] := hD
  refine lv_if_eq (tgt := 14) hx hb d_TileForge_apart_4 (by decide) (fun c_4 => ?_) (fun c_4 => ?_)
  · have c_4 := cs_b0 c_4
    exact absurd (by decide) c_4
  · have c_4 := cs_b1 c_4
    refine lv_iload_n hx hb d_TileForge_apart_7 rfl (lv_at hl 2 rfl) ?_
    refine cs_Si (As := [.int 1]) (rest := []) (wr := [(f0, .inr (8, [.ref a1, .ref c1, .ref r1, .ref y1, .ref k1, .ref j1, .int ibc, .int ilc, .int igl, .int ibk, .int ifa, .int ibd])), (a1, .inr (5, [.ref a2, .ref a3, .int vz, .int vw, .int vh, .int vk])), (a2, .inl (cI, 144, .inl px)), (a3, .inl (cI, 9, .inl md)), (c1, .inr (5, [.ref c2, .ref c3, .int vzc, .int vwc, .int vhc, .int vkc])), (c2, .inl (cI, 144, .inl pxc)), (c3, .inl (cI, 9, .inl mdc))]) ⟨hx, hb, hml, hown, hts⟩ (c_isChoice l hcI 1) (va_cwS 1 hts (cs_gS mw_518 mw_519 mw_139 mw_77) rfl rfl rfl hd_TileForge_isChoice ⟨Nat.le_of_ble_eq_true rfl, Nat.le_of_ble_eq_true rfl⟩) hN hK hP hD hS hA [] [0, 1, 2, 3, 4, 5, 6] rfl rfl rfl rfl (by decide) rfl rfl hl.1 (Nat.le_of_ble_eq_true rfl) d_TileForge_apart_8 ⟨Nat.le_of_ble_eq_true rfl, Nat.le_of_ble_eq_true rfl⟩ (fun r2 w1 H locs hw hP hD hS => ?_)
    obtain ⟨rfl, rfl⟩ := hw
    have hP : va_P D vwCl [(f0, .inr (8, [.ref a1, .ref c1, .ref r1, .ref y1, .ref k1, .ref j1, .int ibc, .int ilc, .int igl, .int ibk, .int ifa, .int ibd])), (a1, .inr (5, [.ref a2, .ref a3, .int vz, .int vw, .int vh, .int vk])), (a2, .inl (cI, 144, .inl px)), (a3, .inl (cI, 9, .inl md)), (c1, .inr (5, [.ref c2, .ref c3, .int vzc, .int vwc, .int vhc, .int vkc])), (c2, .inl (cI, 144, .inl pxc)), (c3, .inl (cI, 9, .inl mdc))] H := hP
    have hD : va_D A [(f0, .inr (8, [.ref a1, .ref c1, .ref r1, .ref y1, .ref k1, .ref j1, .int ibc, .int ilc, .int igl, .int ibk, .int ifa, .int ibd])), (a1, .inr (5, [.ref a2, .ref a3, .int vz, .int vw, .int vh, .int vk])), (a2, .inl (cI, 144, .inl px)), (a3, .inl (cI, 9, .inl md)), (c1, .inr (5, [.ref c2, .ref c3, .int vzc, .int vwc, .int vhc, .int vkc])), (c2, .inl (cI, 144, .inl pxc)), (c3, .inl (cI, 9, .inl mdc))] := hD
    refine lv_if_ne (tgt := 22) hx hb d_TileForge_apart_11 (by decide) (fun c_11 => ?_) (fun c_11 => ?_)
    · have c_11 := cs_b1 c_11
      refine lv_aload_n hx hb d_TileForge_apart_22 rfl (lv_at hl 0 rfl) ?_
      refine lv_iload_n hx hb d_TileForge_apart_23 rfl (lv_at hl 1 rfl) ?_
      refine cs_Vr (As := [.int 0]) (rest := []) (wr := [(a1, .inr (5, [.ref a2, .ref a3, .int vz, .int vw, .int vh, .int vk])), (a2, .inl (cI, 144, .inl px)), (a3, .inl (cI, 9, .inl md)), (c1, .inr (5, [.ref c2, .ref c3, .int vzc, .int vwc, .int vhc, .int vkc])), (c2, .inl (cI, 144, .inl pxc)), (c3, .inl (cI, 9, .inl mdc))]) ⟨hx, hb, hml, hown, hts⟩ (c_tf_choose0 l hcI f0 a1 c1 r1 y1 k1 j1 ibc ilc igl ibk ifa ibd) (cwV 1 hts (cs_gV mw_520 mw_521 mw_522 mw_139 mw_472) rfl rfl rfl ⟨rfl, hd_TileForge_choose⟩ ⟨Nat.le_of_ble_eq_true rfl, Nat.le_of_ble_eq_true rfl⟩) hN hK hP hD hS hA [0] [1, 2, 3, 4, 5, 6] rfl rfl rfl rfl (by decide) (ci := 8) rfl rfl rfl rfl rfl hl.1 (Nat.le_of_ble_eq_true rfl) d_TileForge_apart_24 ⟨Nat.le_of_ble_eq_true rfl, Nat.le_of_ble_eq_true rfl⟩ (fun r3 w1 H locs hw hP hD hS => ?_)
      obtain ⟨hrr, rfl⟩ := hw
      have hrr := hrr.symm
      subst hrr
      have hP : va_P D vwCl [(a1, .inr (5, [.ref a2, .ref a3, .int vz, .int vw, .int vh, .int vk])), (a2, .inl (cI, 144, .inl px)), (a3, .inl (cI, 9, .inl md)), (c1, .inr (5, [.ref c2, .ref c3, .int vzc, .int vwc, .int vhc, .int vkc])), (c2, .inl (cI, 144, .inl pxc)), (c3, .inl (cI, 9, .inl mdc)), (f0, .inr (8, [.ref a1, .ref c1, .ref r1, .ref y1, .ref k1, .ref j1, .int ibc, .int ilc, .int igl, .int ibk, .int ifa, .int ibd]))] H := hP
      have hD : va_D A [(a1, .inr (5, [.ref a2, .ref a3, .int vz, .int vw, .int vh, .int vk])), (a2, .inl (cI, 144, .inl px)), (a3, .inl (cI, 9, .inl md)), (c1, .inr (5, [.ref c2, .ref c3, .int vzc, .int vwc, .int vhc, .int vkc])), (c2, .inl (cI, 144, .inl pxc)), (c3, .inl (cI, 9, .inl mdc)), (f0, .inr (8, [.ref a1, .ref c1, .ref r1, .ref y1, .ref k1, .ref j1, .int ibc, .int ilc, .int igl, .int ibk, .int ifa, .int ibd]))] := hD
      refine lv_astore_n (lv' := [(3, .ref a1), (0, .ref f0), (1, .int 0), (2, .int 1)]) hx hb d_TileForge_apart_27 rfl hl (by decide) rfl (fun ls hl => ?_)
      refine lv_aload_n hx hb d_TileForge_apart_28 rfl (lv_at hl 1 rfl) ?_
      refine lv_iload_n hx hb d_TileForge_apart_29 rfl (lv_at hl 3 rfl) ?_
      refine cs_Vr (As := [.int 1]) (rest := []) (wr := [(a1, .inr (5, [.ref a2, .ref a3, .int vz, .int vw, .int vh, .int vk])), (a2, .inl (cI, 144, .inl px)), (a3, .inl (cI, 9, .inl md)), (c1, .inr (5, [.ref c2, .ref c3, .int vzc, .int vwc, .int vhc, .int vkc])), (c2, .inl (cI, 144, .inl pxc)), (c3, .inl (cI, 9, .inl mdc))]) ⟨hx, hb, hml, hown, hts⟩ (c_tf_choose1 l hcI f0 a1 c1 r1 y1 k1 j1 ibc ilc igl ibk ifa ibd) (cwV 1 hts (cs_gV mw_520 mw_521 mw_522 mw_139 mw_472) rfl rfl rfl ⟨rfl, hd_TileForge_choose⟩ ⟨Nat.le_of_ble_eq_true rfl, Nat.le_of_ble_eq_true rfl⟩) hN hK hP hD hS hA [6] [0, 1, 2, 3, 4, 5] rfl rfl rfl rfl (by decide) (ci := 8) rfl rfl rfl rfl rfl hl.1 (Nat.le_of_ble_eq_true rfl) d_TileForge_apart_30 ⟨Nat.le_of_ble_eq_true rfl, Nat.le_of_ble_eq_true rfl⟩ (fun r4 w1 H locs hw hP hD hS => ?_)
      obtain ⟨hrr, rfl⟩ := hw
      have hrr := hrr.symm
      subst hrr
      have hP : va_P D vwCl [(a1, .inr (5, [.ref a2, .ref a3, .int vz, .int vw, .int vh, .int vk])), (a2, .inl (cI, 144, .inl px)), (a3, .inl (cI, 9, .inl md)), (c1, .inr (5, [.ref c2, .ref c3, .int vzc, .int vwc, .int vhc, .int vkc])), (c2, .inl (cI, 144, .inl pxc)), (c3, .inl (cI, 9, .inl mdc)), (f0, .inr (8, [.ref a1, .ref c1, .ref r1, .ref y1, .ref k1, .ref j1, .int ibc, .int ilc, .int igl, .int ibk, .int ifa, .int ibd]))] H := hP
      have hD : va_D A [(a1, .inr (5, [.ref a2, .ref a3, .int vz, .int vw, .int vh, .int vk])), (a2, .inl (cI, 144, .inl px)), (a3, .inl (cI, 9, .inl md)), (c1, .inr (5, [.ref c2, .ref c3, .int vzc, .int vwc, .int vhc, .int vkc])), (c2, .inl (cI, 144, .inl pxc)), (c3, .inl (cI, 9, .inl mdc)), (f0, .inr (8, [.ref a1, .ref c1, .ref r1, .ref y1, .ref k1, .ref j1, .int ibc, .int ilc, .int igl, .int ibk, .int ifa, .int ibd]))] := hD
      refine lv_astore (lv' := [(4, .ref c1), (3, .ref a1), (0, .ref f0), (1, .int 0), (2, .int 1)]) hx hb d_TileForge_apart_33 hl (by decide) rfl (fun ls hl => ?_)
      refine lv_aload_n hx hb d_TileForge_apart_35 rfl (lv_at hl 1 rfl) ?_
      refine va_get (D := D) (ci := 5) (v := .int vz) (C := "TileForge$Picture") (T := T_Picture) (N := 6) hx hb hts (cs_in in_Picture) hown hK hP 0 rfl rfl 2 (by decide) (hts _ (cs_m mw_523)) (fun _ h9 => h9) rfl d_TileForge_apart_36 ?_
      refine lv_if_eq (tgt := 50) hx hb d_TileForge_apart_39 (by decide) (fun c_39 => ?_) (fun c_39 => ?_)
      · have hP := hP.sub (ws' := [(f0, .inr (8, [.ref a1, .ref c1, .ref r1, .ref y1, .ref k1, .ref j1, .int ibc, .int ilc, .int igl, .int ibk, .int ifa, .int ibd])), (a1, .inr (5, [.ref a2, .ref a3, .int vz, .int vw, .int vh, .int vk])), (a2, .inl (cI, 144, .inl px)), (a3, .inl (cI, 9, .inl md)), (c1, .inr (5, [.ref c2, .ref c3, .int vzc, .int vwc, .int vhc, .int vkc])), (c2, .inl (cI, 144, .inl pxc)), (c3, .inl (cI, 9, .inl mdc))]) [6, 0, 1, 2, 3, 4, 5] rfl
        have hD := hD.sub (ws' := [(f0, .inr (8, [.ref a1, .ref c1, .ref r1, .ref y1, .ref k1, .ref j1, .int ibc, .int ilc, .int igl, .int ibk, .int ifa, .int ibd])), (a1, .inr (5, [.ref a2, .ref a3, .int vz, .int vw, .int vh, .int vk])), (a2, .inl (cI, 144, .inl px)), (a3, .inl (cI, 9, .inl md)), (c1, .inr (5, [.ref c2, .ref c3, .int vzc, .int vwc, .int vhc, .int vkc])), (c2, .inl (cI, 144, .inl pxc)), (c3, .inl (cI, 9, .inl mdc))]) [6, 0, 1, 2, 3, 4, 5] (by decide) rfl
        exact cx_thr (ix := 103) (ic := 105) (E := "java/lang/IllegalStateException") (post := (q_tf_apartC01 cI f0 a1 c1 r1 y1 k1 j1 ibc ilc igl ibk ifa ibd a2 a3 px md vz vw vh vk c2 c3 pxc mdc vzc vwc vhc vkc)) hx hb hst (hl.1.trans hml.symm) B.named hts hown hX hP0 hAe mw_576 mw_577 mw_578 oa_ISE fi_ISE hK hP hD hS hlocks (Nat.le_of_ble_eq_true rfl) (Nat.le_of_ble_eq_true rfl) (Nat.le_of_ble_eq_true rfl) (Nat.le_of_ble_eq_true rfl) (Nat.le_of_ble_eq_true rfl) (Nat.le_of_ble_eq_true rfl) d_TileForge_apart_50 d_TileForge_apart_53 d_TileForge_apart_54 d_TileForge_apart_57  (show _ = _ from rfl)
      · refine lv_aload hx hb d_TileForge_apart_42 (lv_at hl 0 rfl) ?_
        refine va_get (D := D) (ci := 5) (v := .int vzc) (C := "TileForge$Picture") (T := T_Picture) (N := 6) hx hb hts (cs_in in_Picture) hown hK hP 3 rfl rfl 2 (by decide) (hts _ (cs_m mw_523)) (fun _ h9 => h9) rfl d_TileForge_apart_44 ?_
        refine lv_if_ne (tgt := 58) hx hb d_TileForge_apart_47 (by decide) (fun c_47 => ?_) (fun c_47 => ?_)
        · exact absurd (⟨c_39, c_47⟩ : ¬ vz = 0 ∧ ¬ vzc = 0) hbad
        · have hP := hP.sub (ws' := [(f0, .inr (8, [.ref a1, .ref c1, .ref r1, .ref y1, .ref k1, .ref j1, .int ibc, .int ilc, .int igl, .int ibk, .int ifa, .int ibd])), (a1, .inr (5, [.ref a2, .ref a3, .int vz, .int vw, .int vh, .int vk])), (a2, .inl (cI, 144, .inl px)), (a3, .inl (cI, 9, .inl md)), (c1, .inr (5, [.ref c2, .ref c3, .int vzc, .int vwc, .int vhc, .int vkc])), (c2, .inl (cI, 144, .inl pxc)), (c3, .inl (cI, 9, .inl mdc))]) [6, 0, 1, 2, 3, 4, 5] rfl
          have hD := hD.sub (ws' := [(f0, .inr (8, [.ref a1, .ref c1, .ref r1, .ref y1, .ref k1, .ref j1, .int ibc, .int ilc, .int igl, .int ibk, .int ifa, .int ibd])), (a1, .inr (5, [.ref a2, .ref a3, .int vz, .int vw, .int vh, .int vk])), (a2, .inl (cI, 144, .inl px)), (a3, .inl (cI, 9, .inl md)), (c1, .inr (5, [.ref c2, .ref c3, .int vzc, .int vwc, .int vhc, .int vkc])), (c2, .inl (cI, 144, .inl pxc)), (c3, .inl (cI, 9, .inl mdc))]) [6, 0, 1, 2, 3, 4, 5] (by decide) rfl
          exact cx_thr (ix := 103) (ic := 105) (E := "java/lang/IllegalStateException") (post := (q_tf_apartC01 cI f0 a1 c1 r1 y1 k1 j1 ibc ilc igl ibk ifa ibd a2 a3 px md vz vw vh vk c2 c3 pxc mdc vzc vwc vhc vkc)) hx hb hst (hl.1.trans hml.symm) B.named hts hown hX hP0 hAe mw_576 mw_577 mw_578 oa_ISE fi_ISE hK hP hD hS hlocks (Nat.le_of_ble_eq_true rfl) (Nat.le_of_ble_eq_true rfl) (Nat.le_of_ble_eq_true rfl) (Nat.le_of_ble_eq_true rfl) (Nat.le_of_ble_eq_true rfl) (Nat.le_of_ble_eq_true rfl) d_TileForge_apart_50 d_TileForge_apart_53 d_TileForge_apart_54 d_TileForge_apart_57  (show _ = _ from rfl)
    · have c_11 := cs_b0 c_11
      exact absurd (by decide) c_11
def q_tf_apartD01 (cI : ClassId) (f0 : Nat) (a1 : Nat) (c1 : Nat) (r1 : Nat) (y1 : Nat) (k1 : Nat) (j1 : Nat) (ibc : Int32) (ilc : Int32) (igl : Int32) (ibk : Int32) (ifa : Int32) (ibd : Int32) (a2 : Nat) (a3 : Nat) (px : Nat → Int32) (md : Nat → Int32) (vz : Int32) (vw : Int32) (vh : Int32) (vk : Int32) (c2 : Nat) (c3 : Nat) (pxc : Nat → Int32) (mdc : Nat → Int32) (vzc : Int32) (vwc : Int32) (vhc : Int32) (vkc : Int32) : va_W → Prop := fun ww => ww = [(f0, .inr (8, [.ref a1, .ref c1, .ref r1, .ref y1, .ref k1, .ref j1, .int ibc, .int ilc, .int igl, .int ibk, .int ifa, .int ibd])), (a1, .inr (5, [.ref a2, .ref a3, .int vz, .int vw, .int vh, .int vk])), (a2, .inl (cI, 144, .inl px)), (a3, .inl (cI, 9, .inl md)), (c1, .inr (5, [.ref c2, .ref c3, .int vzc, .int vwc, .int vhc, .int vkc])), (c2, .inl (cI, 144, .inl pxc)), (c3, .inl (cI, 9, .inl mdc))]
set_option maxHeartbeats 4000000 in
set_option maxRecDepth 100000 in
theorem c_tf_apartD01 (l : Launch) (hst : l.stackTraces = false) {D : va_G} {tys : List (ClassId × FieldType)} {cI : ClassId} (hcI : tys[0]? = some (cI, .int)) (f0 : Nat) (a1 : Nat) (c1 : Nat) (r1 : Nat) (y1 : Nat) (k1 : Nat) (j1 : Nat) (ibc : Int32) (ilc : Int32) (igl : Int32) (ibk : Int32) (ifa : Int32) (ibd : Int32) (a2 : Nat) (a3 : Nat) (px : Nat → Int32) (md : Nat → Int32) (vz : Int32) (vw : Int32) (vh : Int32) (vk : Int32) (c2 : Nat) (c3 : Nat) (pxc : Nat → Int32) (mdc : Nat → Int32) (vzc : Int32) (vwc : Int32) (vhc : Int32) (vkc : Int32) (hm1 : ¬ vz = 0) (hm2 : ¬ vzc = 0) (hbad : ¬ (vw = vwc ∧ vh = vhc)) : CxE l D vwCl tys y_TileForge_apart ws_TileForge_apart ({ frames := 6, cells := 1, slots := 6, locals := 81 } : Room) [.ref f0, .int 0, .int 1] [(f0, .inr (8, [.ref a1, .ref c1, .ref r1, .ref y1, .ref k1, .ref j1, .int ibc, .int ilc, .int igl, .int ibk, .int ifa, .int ibd])), (a1, .inr (5, [.ref a2, .ref a3, .int vz, .int vw, .int vh, .int vk])), (a2, .inl (cI, 144, .inl px)), (a3, .inl (cI, 9, .inl md)), (c1, .inr (5, [.ref c2, .ref c3, .int vzc, .int vwc, .int vhc, .int vkc])), (c2, .inl (cI, 144, .inl pxc)), (c3, .inl (cI, 9, .inl mdc))] (q_tf_apartD01 cI f0 a1 c1 r1 y1 k1 j1 ibc ilc igl ibk ifa ibd a2 a3 px md vz vw vh vk c2 c3 pxc mdc vzc vwc vhc vkc) "java/lang/UnsupportedOperationException" 1 6 := by
  intro sz
  refine cx_ofW (cc := prog_1_method_11_code) (maxL := 5) (ret := (some .double)) (by decide) rfl ?_
  intro p e s m args below meth c s₁ B hml hv
  obtain ⟨rfl, ⟨hsz, hP, hK, hD0, hN⟩, hX⟩ := hv
  have hx := B.exec
  have hb := B.bytes
  have hr := B.returns
  have hts := atoms_spec (ws := ws_TileForge_apart) B.pre
  have hown : s.vm.findClass "TileForge" = some m.cls := findClass_of_methodNamed B.named
  have hlocks := B.notSynchronized
  subst hsz
  have hD := hD0.self (sz := s.heap.size)
  generalize hAe : va_A [(f0, .inr (8, [.ref a1, .ref c1, .ref r1, .ref y1, .ref k1, .ref j1, .int ibc, .int ilc, .int igl, .int ibk, .int ifa, .int ibd])), (a1, .inr (5, [.ref a2, .ref a3, .int vz, .int vw, .int vh, .int vk])), (a2, .inl (cI, 144, .inl px)), (a3, .inl (cI, 9, .inl md)), (c1, .inr (5, [.ref c2, .ref c3, .int vzc, .int vwc, .int vhc, .int vkc])), (c2, .inl (cI, 144, .inl pxc)), (c3, .inl (cI, 9, .inl mdc))] s.heap.size = A at hD ⊢
  have hA : ∀ q : Nat, s.heap.size ≤ q → A q := fun q h => by rw [← hAe]; exact Or.inr h
  have hS : va_S A s.heap s.heap [] := va_S.rf
  have hP : va_P D vwCl [(f0, .inr (8, [.ref a1, .ref c1, .ref r1, .ref y1, .ref k1, .ref j1, .int ibc, .int ilc, .int igl, .int ibk, .int ifa, .int ibd])), (a1, .inr (5, [.ref a2, .ref a3, .int vz, .int vw, .int vh, .int vk])), (a2, .inl (cI, 144, .inl px)), (a3, .inl (cI, 9, .inl md)), (c1, .inr (5, [.ref c2, .ref c3, .int vzc, .int vwc, .int vhc, .int vkc])), (c2, .inl (cI, 144, .inl pxc)), (c3, .inl (cI, 9, .inl mdc))] s.heap := hP
  have hP0 := hP
  have hl := lv_entry ([.ref f0, .int 0, .int 1]) (n := 5) (Nat.le_of_ble_eq_true rfl)
  rw [lg_entry_eq]
  generalize (lg_sl ([.ref f0, .int 0, .int 1]) ++ List.replicate (5 - (lg_sl ([.ref f0, .int 0, .int 1])).length) Slot.unset).toArray = ls at hl ⊢
  have hl : lv_has ls 5 [(0, .ref f0), (1, .int 0), (2, .int 1)] := hl
  refine lv_iload_n hx hb d_TileForge_apart_0 rfl (lv_at hl 1 rfl) ?_
  refine cs_Si (As := [.int 0]) (rest := []) (wr := [(f0, .inr (8, [.ref a1, .ref c1, .ref r1, .ref y1, .ref k1, .ref j1, .int ibc, .int ilc, .int igl, .int ibk, .int ifa, .int ibd])), (a1, .inr (5, [.ref a2, .ref a3, .int vz, .int vw, .int vh, .int vk])), (a2, .inl (cI, 144, .inl px)), (a3, .inl (cI, 9, .inl md)), (c1, .inr (5, [.ref c2, .ref c3, .int vzc, .int vwc, .int vhc, .int vkc])), (c2, .inl (cI, 144, .inl pxc)), (c3, .inl (cI, 9, .inl mdc))]) ⟨hx, hb, hml, hown, hts⟩ (c_isChoice l hcI 0) (va_cwS 1 hts (cs_gS mw_518 mw_519 mw_139 mw_77) rfl rfl rfl hd_TileForge_isChoice ⟨Nat.le_of_ble_eq_true rfl, Nat.le_of_ble_eq_true rfl⟩) hN hK hP hD hS hA [] [0, 1, 2, 3, 4, 5, 6] rfl rfl rfl rfl (by decide) rfl rfl hl.1 (Nat.le_of_ble_eq_true rfl) d_TileForge_apart_1 ⟨Nat.le_of_ble_eq_true rfl, Nat.le_of_ble_eq_true rfl⟩ (fun r1 w1 H locs hw hP hD hS => ?_)
  obtain ⟨rfl, rfl⟩ := hw
  have hP : va_P D vwCl [(f0, .inr (8, [.ref a1, .ref c1, .ref r1, .ref y1, .ref k1, .ref j1, .int ibc, .int ilc, .int igl, .int ibk, .int ifa, .int ibd])), (a1, .inr (5, [.ref a2, .ref a3, .int vz, .int vw, .int vh, .int vk])), (a2, .inl (cI, 144, .inl px)), (a3, .inl (cI, 9, .inl md)), (c1, .inr (5, [.ref c2, .ref c3, .int vzc, .int vwc, .int vhc, .int vkc])), (c2, .inl (cI, 144, .inl pxc)), (c3, .inl (cI, 9, .inl mdc))] H := hP
  have hD : va_D A [(f0, .inr (8, [.ref a1, .ref c1, .ref r1, .ref y1, .ref k1, .ref j1, .int ibc, .int ilc, .int igl, .int ibk, .int ifa, .int ibd])), (a1, .inr (5, [.ref a2, .ref a3, .int vz, .int vw, .int vh, .int vk])), (a2, .inl (cI, 144, .inl px)), (a3, .inl (cI, 9, .inl md)), (c1, .inr (5, [.ref c2, .ref c3, .int vzc, .int vwc, .int vhc, .int vkc])), (c2, .inl (cI, 144, .inl pxc)), (c3, .inl (cI, 9, .inl mdc))] := hD
  refine lv_if_eq (tgt := 14) hx hb d_TileForge_apart_4 (by decide) (fun c_4 => ?_) (fun c_4 => ?_)
  · have c_4 := cs_b0 c_4
    exact absurd (by decide) c_4
  · have c_4 := cs_b1 c_4
    refine lv_iload_n hx hb d_TileForge_apart_7 rfl (lv_at hl 2 rfl) ?_
    refine cs_Si (As := [.int 1]) (rest := []) (wr := [(f0, .inr (8, [.ref a1, .ref c1, .ref r1, .ref y1, .ref k1, .ref j1, .int ibc, .int ilc, .int igl, .int ibk, .int ifa, .int ibd])), (a1, .inr (5, [.ref a2, .ref a3, .int vz, .int vw, .int vh, .int vk])), (a2, .inl (cI, 144, .inl px)), (a3, .inl (cI, 9, .inl md)), (c1, .inr (5, [.ref c2, .ref c3, .int vzc, .int vwc, .int vhc, .int vkc])), (c2, .inl (cI, 144, .inl pxc)), (c3, .inl (cI, 9, .inl mdc))]) ⟨hx, hb, hml, hown, hts⟩ (c_isChoice l hcI 1) (va_cwS 1 hts (cs_gS mw_518 mw_519 mw_139 mw_77) rfl rfl rfl hd_TileForge_isChoice ⟨Nat.le_of_ble_eq_true rfl, Nat.le_of_ble_eq_true rfl⟩) hN hK hP hD hS hA [] [0, 1, 2, 3, 4, 5, 6] rfl rfl rfl rfl (by decide) rfl rfl hl.1 (Nat.le_of_ble_eq_true rfl) d_TileForge_apart_8 ⟨Nat.le_of_ble_eq_true rfl, Nat.le_of_ble_eq_true rfl⟩ (fun r2 w1 H locs hw hP hD hS => ?_)
    obtain ⟨rfl, rfl⟩ := hw
    have hP : va_P D vwCl [(f0, .inr (8, [.ref a1, .ref c1, .ref r1, .ref y1, .ref k1, .ref j1, .int ibc, .int ilc, .int igl, .int ibk, .int ifa, .int ibd])), (a1, .inr (5, [.ref a2, .ref a3, .int vz, .int vw, .int vh, .int vk])), (a2, .inl (cI, 144, .inl px)), (a3, .inl (cI, 9, .inl md)), (c1, .inr (5, [.ref c2, .ref c3, .int vzc, .int vwc, .int vhc, .int vkc])), (c2, .inl (cI, 144, .inl pxc)), (c3, .inl (cI, 9, .inl mdc))] H := hP
    have hD : va_D A [(f0, .inr (8, [.ref a1, .ref c1, .ref r1, .ref y1, .ref k1, .ref j1, .int ibc, .int ilc, .int igl, .int ibk, .int ifa, .int ibd])), (a1, .inr (5, [.ref a2, .ref a3, .int vz, .int vw, .int vh, .int vk])), (a2, .inl (cI, 144, .inl px)), (a3, .inl (cI, 9, .inl md)), (c1, .inr (5, [.ref c2, .ref c3, .int vzc, .int vwc, .int vhc, .int vkc])), (c2, .inl (cI, 144, .inl pxc)), (c3, .inl (cI, 9, .inl mdc))] := hD
    refine lv_if_ne (tgt := 22) hx hb d_TileForge_apart_11 (by decide) (fun c_11 => ?_) (fun c_11 => ?_)
    · have c_11 := cs_b1 c_11
      refine lv_aload_n hx hb d_TileForge_apart_22 rfl (lv_at hl 0 rfl) ?_
      refine lv_iload_n hx hb d_TileForge_apart_23 rfl (lv_at hl 1 rfl) ?_
      refine cs_Vr (As := [.int 0]) (rest := []) (wr := [(a1, .inr (5, [.ref a2, .ref a3, .int vz, .int vw, .int vh, .int vk])), (a2, .inl (cI, 144, .inl px)), (a3, .inl (cI, 9, .inl md)), (c1, .inr (5, [.ref c2, .ref c3, .int vzc, .int vwc, .int vhc, .int vkc])), (c2, .inl (cI, 144, .inl pxc)), (c3, .inl (cI, 9, .inl mdc))]) ⟨hx, hb, hml, hown, hts⟩ (c_tf_choose0 l hcI f0 a1 c1 r1 y1 k1 j1 ibc ilc igl ibk ifa ibd) (cwV 1 hts (cs_gV mw_520 mw_521 mw_522 mw_139 mw_472) rfl rfl rfl ⟨rfl, hd_TileForge_choose⟩ ⟨Nat.le_of_ble_eq_true rfl, Nat.le_of_ble_eq_true rfl⟩) hN hK hP hD hS hA [0] [1, 2, 3, 4, 5, 6] rfl rfl rfl rfl (by decide) (ci := 8) rfl rfl rfl rfl rfl hl.1 (Nat.le_of_ble_eq_true rfl) d_TileForge_apart_24 ⟨Nat.le_of_ble_eq_true rfl, Nat.le_of_ble_eq_true rfl⟩ (fun r3 w1 H locs hw hP hD hS => ?_)
      obtain ⟨hrr, rfl⟩ := hw
      have hrr := hrr.symm
      subst hrr
      have hP : va_P D vwCl [(a1, .inr (5, [.ref a2, .ref a3, .int vz, .int vw, .int vh, .int vk])), (a2, .inl (cI, 144, .inl px)), (a3, .inl (cI, 9, .inl md)), (c1, .inr (5, [.ref c2, .ref c3, .int vzc, .int vwc, .int vhc, .int vkc])), (c2, .inl (cI, 144, .inl pxc)), (c3, .inl (cI, 9, .inl mdc)), (f0, .inr (8, [.ref a1, .ref c1, .ref r1, .ref y1, .ref k1, .ref j1, .int ibc, .int ilc, .int igl, .int ibk, .int ifa, .int ibd]))] H := hP
      have hD : va_D A [(a1, .inr (5, [.ref a2, .ref a3, .int vz, .int vw, .int vh, .int vk])), (a2, .inl (cI, 144, .inl px)), (a3, .inl (cI, 9, .inl md)), (c1, .inr (5, [.ref c2, .ref c3, .int vzc, .int vwc, .int vhc, .int vkc])), (c2, .inl (cI, 144, .inl pxc)), (c3, .inl (cI, 9, .inl mdc)), (f0, .inr (8, [.ref a1, .ref c1, .ref r1, .ref y1, .ref k1, .ref j1, .int ibc, .int ilc, .int igl, .int ibk, .int ifa, .int ibd]))] := hD
      refine lv_astore_n (lv' := [(3, .ref a1), (0, .ref f0), (1, .int 0), (2, .int 1)]) hx hb d_TileForge_apart_27 rfl hl (by decide) rfl (fun ls hl => ?_)
      refine lv_aload_n hx hb d_TileForge_apart_28 rfl (lv_at hl 1 rfl) ?_
      refine lv_iload_n hx hb d_TileForge_apart_29 rfl (lv_at hl 3 rfl) ?_
      refine cs_Vr (As := [.int 1]) (rest := []) (wr := [(a1, .inr (5, [.ref a2, .ref a3, .int vz, .int vw, .int vh, .int vk])), (a2, .inl (cI, 144, .inl px)), (a3, .inl (cI, 9, .inl md)), (c1, .inr (5, [.ref c2, .ref c3, .int vzc, .int vwc, .int vhc, .int vkc])), (c2, .inl (cI, 144, .inl pxc)), (c3, .inl (cI, 9, .inl mdc))]) ⟨hx, hb, hml, hown, hts⟩ (c_tf_choose1 l hcI f0 a1 c1 r1 y1 k1 j1 ibc ilc igl ibk ifa ibd) (cwV 1 hts (cs_gV mw_520 mw_521 mw_522 mw_139 mw_472) rfl rfl rfl ⟨rfl, hd_TileForge_choose⟩ ⟨Nat.le_of_ble_eq_true rfl, Nat.le_of_ble_eq_true rfl⟩) hN hK hP hD hS hA [6] [0, 1, 2, 3, 4, 5] rfl rfl rfl rfl (by decide) (ci := 8) rfl rfl rfl rfl rfl hl.1 (Nat.le_of_ble_eq_true rfl) d_TileForge_apart_30 ⟨Nat.le_of_ble_eq_true rfl, Nat.le_of_ble_eq_true rfl⟩ (fun r4 w1 H locs hw hP hD hS => ?_)
      obtain ⟨hrr, rfl⟩ := hw
      have hrr := hrr.symm
      subst hrr
      have hP : va_P D vwCl [(a1, .inr (5, [.ref a2, .ref a3, .int vz, .int vw, .int vh, .int vk])), (a2, .inl (cI, 144, .inl px)), (a3, .inl (cI, 9, .inl md)), (c1, .inr (5, [.ref c2, .ref c3, .int vzc, .int vwc, .int vhc, .int vkc])), (c2, .inl (cI, 144, .inl pxc)), (c3, .inl (cI, 9, .inl mdc)), (f0, .inr (8, [.ref a1, .ref c1, .ref r1, .ref y1, .ref k1, .ref j1, .int ibc, .int ilc, .int igl, .int ibk, .int ifa, .int ibd]))] H := hP
      have hD : va_D A [(a1, .inr (5, [.ref a2, .ref a3, .int vz, .int vw, .int vh, .int vk])), (a2, .inl (cI, 144, .inl px)), (a3, .inl (cI, 9, .inl md)), (c1, .inr (5, [.ref c2, .ref c3, .int vzc, .int vwc, .int vhc, .int vkc])), (c2, .inl (cI, 144, .inl pxc)), (c3, .inl (cI, 9, .inl mdc)), (f0, .inr (8, [.ref a1, .ref c1, .ref r1, .ref y1, .ref k1, .ref j1, .int ibc, .int ilc, .int igl, .int ibk, .int ifa, .int ibd]))] := hD
      refine lv_astore (lv' := [(4, .ref c1), (3, .ref a1), (0, .ref f0), (1, .int 0), (2, .int 1)]) hx hb d_TileForge_apart_33 hl (by decide) rfl (fun ls hl => ?_)
      refine lv_aload_n hx hb d_TileForge_apart_35 rfl (lv_at hl 1 rfl) ?_
      refine va_get (D := D) (ci := 5) (v := .int vz) (C := "TileForge$Picture") (T := T_Picture) (N := 6) hx hb hts (cs_in in_Picture) hown hK hP 0 rfl rfl 2 (by decide) (hts _ (cs_m mw_523)) (fun _ h9 => h9) rfl d_TileForge_apart_36 ?_
      refine lv_if_eq (tgt := 50) hx hb d_TileForge_apart_39 (by decide) (fun c_39 => ?_) (fun c_39 => ?_)
      · exact absurd c_39 hm1
      · refine lv_aload hx hb d_TileForge_apart_42 (lv_at hl 0 rfl) ?_
        refine va_get (D := D) (ci := 5) (v := .int vzc) (C := "TileForge$Picture") (T := T_Picture) (N := 6) hx hb hts (cs_in in_Picture) hown hK hP 3 rfl rfl 2 (by decide) (hts _ (cs_m mw_523)) (fun _ h9 => h9) rfl d_TileForge_apart_44 ?_
        refine lv_if_ne (tgt := 58) hx hb d_TileForge_apart_47 (by decide) (fun c_47 => ?_) (fun c_47 => ?_)
        · refine lv_aload_n hx hb d_TileForge_apart_58 rfl (lv_at hl 1 rfl) ?_
          refine va_get (D := D) (ci := 5) (v := .int vw) (C := "TileForge$Picture") (T := T_Picture) (N := 6) hx hb hts (cs_in in_Picture) hown hK hP 0 rfl rfl 3 (by decide) (hts _ (cs_m mw_478)) (fun _ h9 => h9) rfl d_TileForge_apart_59 ?_
          refine lv_aload hx hb d_TileForge_apart_62 (lv_at hl 0 rfl) ?_
          refine va_get (D := D) (ci := 5) (v := .int vwc) (C := "TileForge$Picture") (T := T_Picture) (N := 6) hx hb hts (cs_in in_Picture) hown hK hP 3 rfl rfl 3 (by decide) (hts _ (cs_m mw_478)) (fun _ h9 => h9) rfl d_TileForge_apart_64 ?_
          refine lv_icmp_ne (tgt := 82) hx hb d_TileForge_apart_67 (by decide) (fun c_67 => ?_) (fun c_67 => ?_)
          · have hP := hP.sub (ws' := [(f0, .inr (8, [.ref a1, .ref c1, .ref r1, .ref y1, .ref k1, .ref j1, .int ibc, .int ilc, .int igl, .int ibk, .int ifa, .int ibd])), (a1, .inr (5, [.ref a2, .ref a3, .int vz, .int vw, .int vh, .int vk])), (a2, .inl (cI, 144, .inl px)), (a3, .inl (cI, 9, .inl md)), (c1, .inr (5, [.ref c2, .ref c3, .int vzc, .int vwc, .int vhc, .int vkc])), (c2, .inl (cI, 144, .inl pxc)), (c3, .inl (cI, 9, .inl mdc))]) [6, 0, 1, 2, 3, 4, 5] rfl
            have hD := hD.sub (ws' := [(f0, .inr (8, [.ref a1, .ref c1, .ref r1, .ref y1, .ref k1, .ref j1, .int ibc, .int ilc, .int igl, .int ibk, .int ifa, .int ibd])), (a1, .inr (5, [.ref a2, .ref a3, .int vz, .int vw, .int vh, .int vk])), (a2, .inl (cI, 144, .inl px)), (a3, .inl (cI, 9, .inl md)), (c1, .inr (5, [.ref c2, .ref c3, .int vzc, .int vwc, .int vhc, .int vkc])), (c2, .inl (cI, 144, .inl pxc)), (c3, .inl (cI, 9, .inl mdc))]) [6, 0, 1, 2, 3, 4, 5] (by decide) rfl
            exact cx_thr (ix := 116) (ic := 118) (E := "java/lang/UnsupportedOperationException") (post := (q_tf_apartD01 cI f0 a1 c1 r1 y1 k1 j1 ibc ilc igl ibk ifa ibd a2 a3 px md vz vw vh vk c2 c3 pxc mdc vzc vwc vhc vkc)) hx hb hst (hl.1.trans hml.symm) B.named hts hown hX hP0 hAe mw_573 mw_574 mw_575 oa_UOE fi_UOE hK hP hD hS hlocks (Nat.le_of_ble_eq_true rfl) (Nat.le_of_ble_eq_true rfl) (Nat.le_of_ble_eq_true rfl) (Nat.le_of_ble_eq_true rfl) (Nat.le_of_ble_eq_true rfl) (Nat.le_of_ble_eq_true rfl) d_TileForge_apart_82 d_TileForge_apart_85 d_TileForge_apart_86 d_TileForge_apart_89  (show _ = _ from rfl)
          · refine lv_aload_n hx hb d_TileForge_apart_70 rfl (lv_at hl 1 rfl) ?_
            refine va_get (D := D) (ci := 5) (v := .int vh) (C := "TileForge$Picture") (T := T_Picture) (N := 6) hx hb hts (cs_in in_Picture) hown hK hP 0 rfl rfl 4 (by decide) (hts _ (cs_m mw_477)) (fun _ h9 => h9) rfl d_TileForge_apart_71 ?_
            refine lv_aload hx hb d_TileForge_apart_74 (lv_at hl 0 rfl) ?_
            refine va_get (D := D) (ci := 5) (v := .int vhc) (C := "TileForge$Picture") (T := T_Picture) (N := 6) hx hb hts (cs_in in_Picture) hown hK hP 3 rfl rfl 4 (by decide) (hts _ (cs_m mw_477)) (fun _ h9 => h9) rfl d_TileForge_apart_76 ?_
            refine lv_icmp_eq (tgt := 90) hx hb d_TileForge_apart_79 (by decide) (fun c_79 => ?_) (fun c_79 => ?_)
            · exact absurd (⟨c_67, c_79⟩ : vw = vwc ∧ vh = vhc) hbad
            · have hP := hP.sub (ws' := [(f0, .inr (8, [.ref a1, .ref c1, .ref r1, .ref y1, .ref k1, .ref j1, .int ibc, .int ilc, .int igl, .int ibk, .int ifa, .int ibd])), (a1, .inr (5, [.ref a2, .ref a3, .int vz, .int vw, .int vh, .int vk])), (a2, .inl (cI, 144, .inl px)), (a3, .inl (cI, 9, .inl md)), (c1, .inr (5, [.ref c2, .ref c3, .int vzc, .int vwc, .int vhc, .int vkc])), (c2, .inl (cI, 144, .inl pxc)), (c3, .inl (cI, 9, .inl mdc))]) [6, 0, 1, 2, 3, 4, 5] rfl
              have hD := hD.sub (ws' := [(f0, .inr (8, [.ref a1, .ref c1, .ref r1, .ref y1, .ref k1, .ref j1, .int ibc, .int ilc, .int igl, .int ibk, .int ifa, .int ibd])), (a1, .inr (5, [.ref a2, .ref a3, .int vz, .int vw, .int vh, .int vk])), (a2, .inl (cI, 144, .inl px)), (a3, .inl (cI, 9, .inl md)), (c1, .inr (5, [.ref c2, .ref c3, .int vzc, .int vwc, .int vhc, .int vkc])), (c2, .inl (cI, 144, .inl pxc)), (c3, .inl (cI, 9, .inl mdc))]) [6, 0, 1, 2, 3, 4, 5] (by decide) rfl
              exact cx_thr (ix := 116) (ic := 118) (E := "java/lang/UnsupportedOperationException") (post := (q_tf_apartD01 cI f0 a1 c1 r1 y1 k1 j1 ibc ilc igl ibk ifa ibd a2 a3 px md vz vw vh vk c2 c3 pxc mdc vzc vwc vhc vkc)) hx hb hst (hl.1.trans hml.symm) B.named hts hown hX hP0 hAe mw_573 mw_574 mw_575 oa_UOE fi_UOE hK hP hD hS hlocks (Nat.le_of_ble_eq_true rfl) (Nat.le_of_ble_eq_true rfl) (Nat.le_of_ble_eq_true rfl) (Nat.le_of_ble_eq_true rfl) (Nat.le_of_ble_eq_true rfl) (Nat.le_of_ble_eq_true rfl) d_TileForge_apart_82 d_TileForge_apart_85 d_TileForge_apart_86 d_TileForge_apart_89  (show _ = _ from rfl)
        · exact absurd c_47 hm2
    · have c_11 := cs_b0 c_11
      exact absurd (by decide) c_11
def q_tf_apartC02 (cI : ClassId) (f0 : Nat) (a1 : Nat) (c1 : Nat) (r1 : Nat) (y1 : Nat) (k1 : Nat) (j1 : Nat) (ibc : Int32) (ilc : Int32) (igl : Int32) (ibk : Int32) (ifa : Int32) (ibd : Int32) (a2 : Nat) (a3 : Nat) (px : Nat → Int32) (md : Nat → Int32) (vz : Int32) (vw : Int32) (vh : Int32) (vk : Int32) (r2 : Nat) (r3 : Nat) (pxr : Nat → Int32) (mdr : Nat → Int32) (vzr : Int32) (vwr : Int32) (vhr : Int32) (vkr : Int32) : va_W → Prop := fun ww => ww = [(f0, .inr (8, [.ref a1, .ref c1, .ref r1, .ref y1, .ref k1, .ref j1, .int ibc, .int ilc, .int igl, .int ibk, .int ifa, .int ibd])), (a1, .inr (5, [.ref a2, .ref a3, .int vz, .int vw, .int vh, .int vk])), (a2, .inl (cI, 144, .inl px)), (a3, .inl (cI, 9, .inl md)), (r1, .inr (5, [.ref r2, .ref r3, .int vzr, .int vwr, .int vhr, .int vkr])), (r2, .inl (cI, 144, .inl pxr)), (r3, .inl (cI, 9, .inl mdr))]
set_option maxHeartbeats 4000000 in
set_option maxRecDepth 100000 in
theorem c_tf_apartC02 (l : Launch) (hst : l.stackTraces = false) {D : va_G} {tys : List (ClassId × FieldType)} {cI : ClassId} (hcI : tys[0]? = some (cI, .int)) (f0 : Nat) (a1 : Nat) (c1 : Nat) (r1 : Nat) (y1 : Nat) (k1 : Nat) (j1 : Nat) (ibc : Int32) (ilc : Int32) (igl : Int32) (ibk : Int32) (ifa : Int32) (ibd : Int32) (a2 : Nat) (a3 : Nat) (px : Nat → Int32) (md : Nat → Int32) (vz : Int32) (vw : Int32) (vh : Int32) (vk : Int32) (r2 : Nat) (r3 : Nat) (pxr : Nat → Int32) (mdr : Nat → Int32) (vzr : Int32) (vwr : Int32) (vhr : Int32) (vkr : Int32) (hbad : ¬ (¬ vz = 0 ∧ ¬ vzr = 0)) : CxE l D vwCl tys y_TileForge_apart ws_TileForge_apart ({ frames := 6, cells := 1, slots := 6, locals := 81 } : Room) [.ref f0, .int 0, .int 2] [(f0, .inr (8, [.ref a1, .ref c1, .ref r1, .ref y1, .ref k1, .ref j1, .int ibc, .int ilc, .int igl, .int ibk, .int ifa, .int ibd])), (a1, .inr (5, [.ref a2, .ref a3, .int vz, .int vw, .int vh, .int vk])), (a2, .inl (cI, 144, .inl px)), (a3, .inl (cI, 9, .inl md)), (r1, .inr (5, [.ref r2, .ref r3, .int vzr, .int vwr, .int vhr, .int vkr])), (r2, .inl (cI, 144, .inl pxr)), (r3, .inl (cI, 9, .inl mdr))] (q_tf_apartC02 cI f0 a1 c1 r1 y1 k1 j1 ibc ilc igl ibk ifa ibd a2 a3 px md vz vw vh vk r2 r3 pxr mdr vzr vwr vhr vkr) "java/lang/IllegalStateException" 1 6 := by
  intro sz
  refine cx_ofW (cc := prog_1_method_11_code) (maxL := 5) (ret := (some .double)) (by decide) rfl ?_
  intro p e s m args below meth c s₁ B hml hv
  obtain ⟨rfl, ⟨hsz, hP, hK, hD0, hN⟩, hX⟩ := hv
  have hx := B.exec
  have hb := B.bytes
  have hr := B.returns
  have hts := atoms_spec (ws := ws_TileForge_apart) B.pre
  have hown : s.vm.findClass "TileForge" = some m.cls := findClass_of_methodNamed B.named
  have hlocks := B.notSynchronized
  subst hsz
  have hD := hD0.self (sz := s.heap.size)
  generalize hAe : va_A [(f0, .inr (8, [.ref a1, .ref c1, .ref r1, .ref y1, .ref k1, .ref j1, .int ibc, .int ilc, .int igl, .int ibk, .int ifa, .int ibd])), (a1, .inr (5, [.ref a2, .ref a3, .int vz, .int vw, .int vh, .int vk])), (a2, .inl (cI, 144, .inl px)), (a3, .inl (cI, 9, .inl md)), (r1, .inr (5, [.ref r2, .ref r3, .int vzr, .int vwr, .int vhr, .int vkr])), (r2, .inl (cI, 144, .inl pxr)), (r3, .inl (cI, 9, .inl mdr))] s.heap.size = A at hD ⊢
  have hA : ∀ q : Nat, s.heap.size ≤ q → A q := fun q h => by rw [← hAe]; exact Or.inr h
  have hS : va_S A s.heap s.heap [] := va_S.rf
  have hP : va_P D vwCl [(f0, .inr (8, [.ref a1, .ref c1, .ref r1, .ref y1, .ref k1, .ref j1, .int ibc, .int ilc, .int igl, .int ibk, .int ifa, .int ibd])), (a1, .inr (5, [.ref a2, .ref a3, .int vz, .int vw, .int vh, .int vk])), (a2, .inl (cI, 144, .inl px)), (a3, .inl (cI, 9, .inl md)), (r1, .inr (5, [.ref r2, .ref r3, .int vzr, .int vwr, .int vhr, .int vkr])), (r2, .inl (cI, 144, .inl pxr)), (r3, .inl (cI, 9, .inl mdr))] s.heap := hP
  have hP0 := hP
  have hl := lv_entry ([.ref f0, .int 0, .int 2]) (n := 5) (Nat.le_of_ble_eq_true rfl)
  rw [lg_entry_eq]
  generalize (lg_sl ([.ref f0, .int 0, .int 2]) ++ List.replicate (5 - (lg_sl ([.ref f0, .int 0, .int 2])).length) Slot.unset).toArray = ls at hl ⊢
  have hl : lv_has ls 5 [(0, .ref f0), (1, .int 0), (2, .int 2)] := hl
  refine lv_iload_n hx hb d_TileForge_apart_0 rfl (lv_at hl 1 rfl) ?_
  refine cs_Si (As := [.int 0]) (rest := []) (wr := [(f0, .inr (8, [.ref a1, .ref c1, .ref r1, .ref y1, .ref k1, .ref j1, .int ibc, .int ilc, .int igl, .int ibk, .int ifa, .int ibd])), (a1, .inr (5, [.ref a2, .ref a3, .int vz, .int vw, .int vh, .int vk])), (a2, .inl (cI, 144, .inl px)), (a3, .inl (cI, 9, .inl md)), (r1, .inr (5, [.ref r2, .ref r3, .int vzr, .int vwr, .int vhr, .int vkr])), (r2, .inl (cI, 144, .inl pxr)), (r3, .inl (cI, 9, .inl mdr))]) ⟨hx, hb, hml, hown, hts⟩ (c_isChoice l hcI 0) (va_cwS 1 hts (cs_gS mw_518 mw_519 mw_139 mw_77) rfl rfl rfl hd_TileForge_isChoice ⟨Nat.le_of_ble_eq_true rfl, Nat.le_of_ble_eq_true rfl⟩) hN hK hP hD hS hA [] [0, 1, 2, 3, 4, 5, 6] rfl rfl rfl rfl (by decide) rfl rfl hl.1 (Nat.le_of_ble_eq_true rfl) d_TileForge_apart_1 ⟨Nat.le_of_ble_eq_true rfl, Nat.le_of_ble_eq_true rfl⟩ (fun r1 w1 H locs hw hP hD hS => ?_)
  obtain ⟨rfl, rfl⟩ := hw
  have hP : va_P D vwCl [(f0, .inr (8, [.ref a1, .ref c1, .ref r1, .ref y1, .ref k1, .ref j1, .int ibc, .int ilc, .int igl, .int ibk, .int ifa, .int ibd])), (a1, .inr (5, [.ref a2, .ref a3, .int vz, .int vw, .int vh, .int vk])), (a2, .inl (cI, 144, .inl px)), (a3, .inl (cI, 9, .inl md)), (r1, .inr (5, [.ref r2, .ref r3, .int vzr, .int vwr, .int vhr, .int vkr])), (r2, .inl (cI, 144, .inl pxr)), (r3, .inl (cI, 9, .inl mdr))] H := hP
  have hD : va_D A [(f0, .inr (8, [.ref a1, .ref c1, .ref r1, .ref y1, .ref k1, .ref j1, .int ibc, .int ilc, .int igl, .int ibk, .int ifa, .int ibd])), (a1, .inr (5, [.ref a2, .ref a3, .int vz, .int vw, .int vh, .int vk])), (a2, .inl (cI, 144, .inl px)), (a3, .inl (cI, 9, .inl md)), (r1, .inr (5, [.ref r2, .ref r3, .int vzr, .int vwr, .int vhr, .int vkr])), (r2, .inl (cI, 144, .inl pxr)), (r3, .inl (cI, 9, .inl mdr))] := hD
  refine lv_if_eq (tgt := 14) hx hb d_TileForge_apart_4 (by decide) (fun c_4 => ?_) (fun c_4 => ?_)
  · have c_4 := cs_b0 c_4
    exact absurd (by decide) c_4
  · have c_4 := cs_b1 c_4
    refine lv_iload_n hx hb d_TileForge_apart_7 rfl (lv_at hl 2 rfl) ?_
    refine cs_Si (As := [.int 2]) (rest := []) (wr := [(f0, .inr (8, [.ref a1, .ref c1, .ref r1, .ref y1, .ref k1, .ref j1, .int ibc, .int ilc, .int igl, .int ibk, .int ifa, .int ibd])), (a1, .inr (5, [.ref a2, .ref a3, .int vz, .int vw, .int vh, .int vk])), (a2, .inl (cI, 144, .inl px)), (a3, .inl (cI, 9, .inl md)), (r1, .inr (5, [.ref r2, .ref r3, .int vzr, .int vwr, .int vhr, .int vkr])), (r2, .inl (cI, 144, .inl pxr)), (r3, .inl (cI, 9, .inl mdr))]) ⟨hx, hb, hml, hown, hts⟩ (c_isChoice l hcI 2) (va_cwS 1 hts (cs_gS mw_518 mw_519 mw_139 mw_77) rfl rfl rfl hd_TileForge_isChoice ⟨Nat.le_of_ble_eq_true rfl, Nat.le_of_ble_eq_true rfl⟩) hN hK hP hD hS hA [] [0, 1, 2, 3, 4, 5, 6] rfl rfl rfl rfl (by decide) rfl rfl hl.1 (Nat.le_of_ble_eq_true rfl) d_TileForge_apart_8 ⟨Nat.le_of_ble_eq_true rfl, Nat.le_of_ble_eq_true rfl⟩ (fun r2 w1 H locs hw hP hD hS => ?_)
    obtain ⟨rfl, rfl⟩ := hw
    have hP : va_P D vwCl [(f0, .inr (8, [.ref a1, .ref c1, .ref r1, .ref y1, .ref k1, .ref j1, .int ibc, .int ilc, .int igl, .int ibk, .int ifa, .int ibd])), (a1, .inr (5, [.ref a2, .ref a3, .int vz, .int vw, .int vh, .int vk])), (a2, .inl (cI, 144, .inl px)), (a3, .inl (cI, 9, .inl md)), (r1, .inr (5, [.ref r2, .ref r3, .int vzr, .int vwr, .int vhr, .int vkr])), (r2, .inl (cI, 144, .inl pxr)), (r3, .inl (cI, 9, .inl mdr))] H := hP
    have hD : va_D A [(f0, .inr (8, [.ref a1, .ref c1, .ref r1, .ref y1, .ref k1, .ref j1, .int ibc, .int ilc, .int igl, .int ibk, .int ifa, .int ibd])), (a1, .inr (5, [.ref a2, .ref a3, .int vz, .int vw, .int vh, .int vk])), (a2, .inl (cI, 144, .inl px)), (a3, .inl (cI, 9, .inl md)), (r1, .inr (5, [.ref r2, .ref r3, .int vzr, .int vwr, .int vhr, .int vkr])), (r2, .inl (cI, 144, .inl pxr)), (r3, .inl (cI, 9, .inl mdr))] := hD
    refine lv_if_ne (tgt := 22) hx hb d_TileForge_apart_11 (by decide) (fun c_11 => ?_) (fun c_11 => ?_)
    · have c_11 := cs_b1 c_11
      refine lv_aload_n hx hb d_TileForge_apart_22 rfl (lv_at hl 0 rfl) ?_
      refine lv_iload_n hx hb d_TileForge_apart_23 rfl (lv_at hl 1 rfl) ?_
      refine cs_Vr (As := [.int 0]) (rest := []) (wr := [(a1, .inr (5, [.ref a2, .ref a3, .int vz, .int vw, .int vh, .int vk])), (a2, .inl (cI, 144, .inl px)), (a3, .inl (cI, 9, .inl md)), (r1, .inr (5, [.ref r2, .ref r3, .int vzr, .int vwr, .int vhr, .int vkr])), (r2, .inl (cI, 144, .inl pxr)), (r3, .inl (cI, 9, .inl mdr))]) ⟨hx, hb, hml, hown, hts⟩ (c_tf_choose0 l hcI f0 a1 c1 r1 y1 k1 j1 ibc ilc igl ibk ifa ibd) (cwV 1 hts (cs_gV mw_520 mw_521 mw_522 mw_139 mw_472) rfl rfl rfl ⟨rfl, hd_TileForge_choose⟩ ⟨Nat.le_of_ble_eq_true rfl, Nat.le_of_ble_eq_true rfl⟩) hN hK hP hD hS hA [0] [1, 2, 3, 4, 5, 6] rfl rfl rfl rfl (by decide) (ci := 8) rfl rfl rfl rfl rfl hl.1 (Nat.le_of_ble_eq_true rfl) d_TileForge_apart_24 ⟨Nat.le_of_ble_eq_true rfl, Nat.le_of_ble_eq_true rfl⟩ (fun r3 w1 H locs hw hP hD hS => ?_)
      obtain ⟨hrr, rfl⟩ := hw
      have hrr := hrr.symm
      subst hrr
      have hP : va_P D vwCl [(a1, .inr (5, [.ref a2, .ref a3, .int vz, .int vw, .int vh, .int vk])), (a2, .inl (cI, 144, .inl px)), (a3, .inl (cI, 9, .inl md)), (r1, .inr (5, [.ref r2, .ref r3, .int vzr, .int vwr, .int vhr, .int vkr])), (r2, .inl (cI, 144, .inl pxr)), (r3, .inl (cI, 9, .inl mdr)), (f0, .inr (8, [.ref a1, .ref c1, .ref r1, .ref y1, .ref k1, .ref j1, .int ibc, .int ilc, .int igl, .int ibk, .int ifa, .int ibd]))] H := hP
      have hD : va_D A [(a1, .inr (5, [.ref a2, .ref a3, .int vz, .int vw, .int vh, .int vk])), (a2, .inl (cI, 144, .inl px)), (a3, .inl (cI, 9, .inl md)), (r1, .inr (5, [.ref r2, .ref r3, .int vzr, .int vwr, .int vhr, .int vkr])), (r2, .inl (cI, 144, .inl pxr)), (r3, .inl (cI, 9, .inl mdr)), (f0, .inr (8, [.ref a1, .ref c1, .ref r1, .ref y1, .ref k1, .ref j1, .int ibc, .int ilc, .int igl, .int ibk, .int ifa, .int ibd]))] := hD
      refine lv_astore_n (lv' := [(3, .ref a1), (0, .ref f0), (1, .int 0), (2, .int 2)]) hx hb d_TileForge_apart_27 rfl hl (by decide) rfl (fun ls hl => ?_)
      refine lv_aload_n hx hb d_TileForge_apart_28 rfl (lv_at hl 1 rfl) ?_
      refine lv_iload_n hx hb d_TileForge_apart_29 rfl (lv_at hl 3 rfl) ?_
      refine cs_Vr (As := [.int 2]) (rest := []) (wr := [(a1, .inr (5, [.ref a2, .ref a3, .int vz, .int vw, .int vh, .int vk])), (a2, .inl (cI, 144, .inl px)), (a3, .inl (cI, 9, .inl md)), (r1, .inr (5, [.ref r2, .ref r3, .int vzr, .int vwr, .int vhr, .int vkr])), (r2, .inl (cI, 144, .inl pxr)), (r3, .inl (cI, 9, .inl mdr))]) ⟨hx, hb, hml, hown, hts⟩ (c_tf_choose2 l hcI f0 a1 c1 r1 y1 k1 j1 ibc ilc igl ibk ifa ibd) (cwV 1 hts (cs_gV mw_520 mw_521 mw_522 mw_139 mw_472) rfl rfl rfl ⟨rfl, hd_TileForge_choose⟩ ⟨Nat.le_of_ble_eq_true rfl, Nat.le_of_ble_eq_true rfl⟩) hN hK hP hD hS hA [6] [0, 1, 2, 3, 4, 5] rfl rfl rfl rfl (by decide) (ci := 8) rfl rfl rfl rfl rfl hl.1 (Nat.le_of_ble_eq_true rfl) d_TileForge_apart_30 ⟨Nat.le_of_ble_eq_true rfl, Nat.le_of_ble_eq_true rfl⟩ (fun r4 w1 H locs hw hP hD hS => ?_)
      obtain ⟨hrr, rfl⟩ := hw
      have hrr := hrr.symm
      subst hrr
      have hP : va_P D vwCl [(a1, .inr (5, [.ref a2, .ref a3, .int vz, .int vw, .int vh, .int vk])), (a2, .inl (cI, 144, .inl px)), (a3, .inl (cI, 9, .inl md)), (r1, .inr (5, [.ref r2, .ref r3, .int vzr, .int vwr, .int vhr, .int vkr])), (r2, .inl (cI, 144, .inl pxr)), (r3, .inl (cI, 9, .inl mdr)), (f0, .inr (8, [.ref a1, .ref c1, .ref r1, .ref y1, .ref k1, .ref j1, .int ibc, .int ilc, .int igl, .int ibk, .int ifa, .int ibd]))] H := hP
      have hD : va_D A [(a1, .inr (5, [.ref a2, .ref a3, .int vz, .int vw, .int vh, .int vk])), (a2, .inl (cI, 144, .inl px)), (a3, .inl (cI, 9, .inl md)), (r1, .inr (5, [.ref r2, .ref r3, .int vzr, .int vwr, .int vhr, .int vkr])), (r2, .inl (cI, 144, .inl pxr)), (r3, .inl (cI, 9, .inl mdr)), (f0, .inr (8, [.ref a1, .ref c1, .ref r1, .ref y1, .ref k1, .ref j1, .int ibc, .int ilc, .int igl, .int ibk, .int ifa, .int ibd]))] := hD
      refine lv_astore (lv' := [(4, .ref r1), (3, .ref a1), (0, .ref f0), (1, .int 0), (2, .int 2)]) hx hb d_TileForge_apart_33 hl (by decide) rfl (fun ls hl => ?_)
      refine lv_aload_n hx hb d_TileForge_apart_35 rfl (lv_at hl 1 rfl) ?_
      refine va_get (D := D) (ci := 5) (v := .int vz) (C := "TileForge$Picture") (T := T_Picture) (N := 6) hx hb hts (cs_in in_Picture) hown hK hP 0 rfl rfl 2 (by decide) (hts _ (cs_m mw_523)) (fun _ h9 => h9) rfl d_TileForge_apart_36 ?_
      refine lv_if_eq (tgt := 50) hx hb d_TileForge_apart_39 (by decide) (fun c_39 => ?_) (fun c_39 => ?_)
      · have hP := hP.sub (ws' := [(f0, .inr (8, [.ref a1, .ref c1, .ref r1, .ref y1, .ref k1, .ref j1, .int ibc, .int ilc, .int igl, .int ibk, .int ifa, .int ibd])), (a1, .inr (5, [.ref a2, .ref a3, .int vz, .int vw, .int vh, .int vk])), (a2, .inl (cI, 144, .inl px)), (a3, .inl (cI, 9, .inl md)), (r1, .inr (5, [.ref r2, .ref r3, .int vzr, .int vwr, .int vhr, .int vkr])), (r2, .inl (cI, 144, .inl pxr)), (r3, .inl (cI, 9, .inl mdr))]) [6, 0, 1, 2, 3, 4, 5] rfl
        have hD := hD.sub (ws' := [(f0, .inr (8, [.ref a1, .ref c1, .ref r1, .ref y1, .ref k1, .ref j1, .int ibc, .int ilc, .int igl, .int ibk, .int ifa, .int ibd])), (a1, .inr (5, [.ref a2, .ref a3, .int vz, .int vw, .int vh, .int vk])), (a2, .inl (cI, 144, .inl px)), (a3, .inl (cI, 9, .inl md)), (r1, .inr (5, [.ref r2, .ref r3, .int vzr, .int vwr, .int vhr, .int vkr])), (r2, .inl (cI, 144, .inl pxr)), (r3, .inl (cI, 9, .inl mdr))]) [6, 0, 1, 2, 3, 4, 5] (by decide) rfl
        exact cx_thr (ix := 103) (ic := 105) (E := "java/lang/IllegalStateException") (post := (q_tf_apartC02 cI f0 a1 c1 r1 y1 k1 j1 ibc ilc igl ibk ifa ibd a2 a3 px md vz vw vh vk r2 r3 pxr mdr vzr vwr vhr vkr)) hx hb hst (hl.1.trans hml.symm) B.named hts hown hX hP0 hAe mw_576 mw_577 mw_578 oa_ISE fi_ISE hK hP hD hS hlocks (Nat.le_of_ble_eq_true rfl) (Nat.le_of_ble_eq_true rfl) (Nat.le_of_ble_eq_true rfl) (Nat.le_of_ble_eq_true rfl) (Nat.le_of_ble_eq_true rfl) (Nat.le_of_ble_eq_true rfl) d_TileForge_apart_50 d_TileForge_apart_53 d_TileForge_apart_54 d_TileForge_apart_57  (show _ = _ from rfl)
      · refine lv_aload hx hb d_TileForge_apart_42 (lv_at hl 0 rfl) ?_
        refine va_get (D := D) (ci := 5) (v := .int vzr) (C := "TileForge$Picture") (T := T_Picture) (N := 6) hx hb hts (cs_in in_Picture) hown hK hP 3 rfl rfl 2 (by decide) (hts _ (cs_m mw_523)) (fun _ h9 => h9) rfl d_TileForge_apart_44 ?_
        refine lv_if_ne (tgt := 58) hx hb d_TileForge_apart_47 (by decide) (fun c_47 => ?_) (fun c_47 => ?_)
        · exact absurd (⟨c_39, c_47⟩ : ¬ vz = 0 ∧ ¬ vzr = 0) hbad
        · have hP := hP.sub (ws' := [(f0, .inr (8, [.ref a1, .ref c1, .ref r1, .ref y1, .ref k1, .ref j1, .int ibc, .int ilc, .int igl, .int ibk, .int ifa, .int ibd])), (a1, .inr (5, [.ref a2, .ref a3, .int vz, .int vw, .int vh, .int vk])), (a2, .inl (cI, 144, .inl px)), (a3, .inl (cI, 9, .inl md)), (r1, .inr (5, [.ref r2, .ref r3, .int vzr, .int vwr, .int vhr, .int vkr])), (r2, .inl (cI, 144, .inl pxr)), (r3, .inl (cI, 9, .inl mdr))]) [6, 0, 1, 2, 3, 4, 5] rfl
          have hD := hD.sub (ws' := [(f0, .inr (8, [.ref a1, .ref c1, .ref r1, .ref y1, .ref k1, .ref j1, .int ibc, .int ilc, .int igl, .int ibk, .int ifa, .int ibd])), (a1, .inr (5, [.ref a2, .ref a3, .int vz, .int vw, .int vh, .int vk])), (a2, .inl (cI, 144, .inl px)), (a3, .inl (cI, 9, .inl md)), (r1, .inr (5, [.ref r2, .ref r3, .int vzr, .int vwr, .int vhr, .int vkr])), (r2, .inl (cI, 144, .inl pxr)), (r3, .inl (cI, 9, .inl mdr))]) [6, 0, 1, 2, 3, 4, 5] (by decide) rfl
          exact cx_thr (ix := 103) (ic := 105) (E := "java/lang/IllegalStateException") (post := (q_tf_apartC02 cI f0 a1 c1 r1 y1 k1 j1 ibc ilc igl ibk ifa ibd a2 a3 px md vz vw vh vk r2 r3 pxr mdr vzr vwr vhr vkr)) hx hb hst (hl.1.trans hml.symm) B.named hts hown hX hP0 hAe mw_576 mw_577 mw_578 oa_ISE fi_ISE hK hP hD hS hlocks (Nat.le_of_ble_eq_true rfl) (Nat.le_of_ble_eq_true rfl) (Nat.le_of_ble_eq_true rfl) (Nat.le_of_ble_eq_true rfl) (Nat.le_of_ble_eq_true rfl) (Nat.le_of_ble_eq_true rfl) d_TileForge_apart_50 d_TileForge_apart_53 d_TileForge_apart_54 d_TileForge_apart_57  (show _ = _ from rfl)
    · have c_11 := cs_b0 c_11
      exact absurd (by decide) c_11
def q_tf_apartD02 (cI : ClassId) (f0 : Nat) (a1 : Nat) (c1 : Nat) (r1 : Nat) (y1 : Nat) (k1 : Nat) (j1 : Nat) (ibc : Int32) (ilc : Int32) (igl : Int32) (ibk : Int32) (ifa : Int32) (ibd : Int32) (a2 : Nat) (a3 : Nat) (px : Nat → Int32) (md : Nat → Int32) (vz : Int32) (vw : Int32) (vh : Int32) (vk : Int32) (r2 : Nat) (r3 : Nat) (pxr : Nat → Int32) (mdr : Nat → Int32) (vzr : Int32) (vwr : Int32) (vhr : Int32) (vkr : Int32) : va_W → Prop := fun ww => ww = [(f0, .inr (8, [.ref a1, .ref c1, .ref r1, .ref y1, .ref k1, .ref j1, .int ibc, .int ilc, .int igl, .int ibk, .int ifa, .int ibd])), (a1, .inr (5, [.ref a2, .ref a3, .int vz, .int vw, .int vh, .int vk])), (a2, .inl (cI, 144, .inl px)), (a3, .inl (cI, 9, .inl md)), (r1, .inr (5, [.ref r2, .ref r3, .int vzr, .int vwr, .int vhr, .int vkr])), (r2, .inl (cI, 144, .inl pxr)), (r3, .inl (cI, 9, .inl mdr))]
set_option maxHeartbeats 4000000 in
set_option maxRecDepth 100000 in
theorem c_tf_apartD02 (l : Launch) (hst : l.stackTraces = false) {D : va_G} {tys : List (ClassId × FieldType)} {cI : ClassId} (hcI : tys[0]? = some (cI, .int)) (f0 : Nat) (a1 : Nat) (c1 : Nat) (r1 : Nat) (y1 : Nat) (k1 : Nat) (j1 : Nat) (ibc : Int32) (ilc : Int32) (igl : Int32) (ibk : Int32) (ifa : Int32) (ibd : Int32) (a2 : Nat) (a3 : Nat) (px : Nat → Int32) (md : Nat → Int32) (vz : Int32) (vw : Int32) (vh : Int32) (vk : Int32) (r2 : Nat) (r3 : Nat) (pxr : Nat → Int32) (mdr : Nat → Int32) (vzr : Int32) (vwr : Int32) (vhr : Int32) (vkr : Int32) (hm1 : ¬ vz = 0) (hm2 : ¬ vzr = 0) (hbad : ¬ (vw = vwr ∧ vh = vhr)) : CxE l D vwCl tys y_TileForge_apart ws_TileForge_apart ({ frames := 6, cells := 1, slots := 6, locals := 81 } : Room) [.ref f0, .int 0, .int 2] [(f0, .inr (8, [.ref a1, .ref c1, .ref r1, .ref y1, .ref k1, .ref j1, .int ibc, .int ilc, .int igl, .int ibk, .int ifa, .int ibd])), (a1, .inr (5, [.ref a2, .ref a3, .int vz, .int vw, .int vh, .int vk])), (a2, .inl (cI, 144, .inl px)), (a3, .inl (cI, 9, .inl md)), (r1, .inr (5, [.ref r2, .ref r3, .int vzr, .int vwr, .int vhr, .int vkr])), (r2, .inl (cI, 144, .inl pxr)), (r3, .inl (cI, 9, .inl mdr))] (q_tf_apartD02 cI f0 a1 c1 r1 y1 k1 j1 ibc ilc igl ibk ifa ibd a2 a3 px md vz vw vh vk r2 r3 pxr mdr vzr vwr vhr vkr) "java/lang/UnsupportedOperationException" 1 6 := by
  intro sz
  refine cx_ofW (cc := prog_1_method_11_code) (maxL := 5) (ret := (some .double)) (by decide) rfl ?_
  intro p e s m args below meth c s₁ B hml hv
  obtain ⟨rfl, ⟨hsz, hP, hK, hD0, hN⟩, hX⟩ := hv
  have hx := B.exec
  have hb := B.bytes
  have hr := B.returns
  have hts := atoms_spec (ws := ws_TileForge_apart) B.pre
  have hown : s.vm.findClass "TileForge" = some m.cls := findClass_of_methodNamed B.named
  have hlocks := B.notSynchronized
  subst hsz
  have hD := hD0.self (sz := s.heap.size)
  generalize hAe : va_A [(f0, .inr (8, [.ref a1, .ref c1, .ref r1, .ref y1, .ref k1, .ref j1, .int ibc, .int ilc, .int igl, .int ibk, .int ifa, .int ibd])), (a1, .inr (5, [.ref a2, .ref a3, .int vz, .int vw, .int vh, .int vk])), (a2, .inl (cI, 144, .inl px)), (a3, .inl (cI, 9, .inl md)), (r1, .inr (5, [.ref r2, .ref r3, .int vzr, .int vwr, .int vhr, .int vkr])), (r2, .inl (cI, 144, .inl pxr)), (r3, .inl (cI, 9, .inl mdr))] s.heap.size = A at hD ⊢
  have hA : ∀ q : Nat, s.heap.size ≤ q → A q := fun q h => by rw [← hAe]; exact Or.inr h
  have hS : va_S A s.heap s.heap [] := va_S.rf
  have hP : va_P D vwCl [(f0, .inr (8, [.ref a1, .ref c1, .ref r1, .ref y1, .ref k1, .ref j1, .int ibc, .int ilc, .int igl, .int ibk, .int ifa, .int ibd])), (a1, .inr (5, [.ref a2, .ref a3, .int vz, .int vw, .int vh, .int vk])), (a2, .inl (cI, 144, .inl px)), (a3, .inl (cI, 9, .inl md)), (r1, .inr (5, [.ref r2, .ref r3, .int vzr, .int vwr, .int vhr, .int vkr])), (r2, .inl (cI, 144, .inl pxr)), (r3, .inl (cI, 9, .inl mdr))] s.heap := hP
  have hP0 := hP
  have hl := lv_entry ([.ref f0, .int 0, .int 2]) (n := 5) (Nat.le_of_ble_eq_true rfl)
  rw [lg_entry_eq]
  generalize (lg_sl ([.ref f0, .int 0, .int 2]) ++ List.replicate (5 - (lg_sl ([.ref f0, .int 0, .int 2])).length) Slot.unset).toArray = ls at hl ⊢
  have hl : lv_has ls 5 [(0, .ref f0), (1, .int 0), (2, .int 2)] := hl
  refine lv_iload_n hx hb d_TileForge_apart_0 rfl (lv_at hl 1 rfl) ?_
  refine cs_Si (As := [.int 0]) (rest := []) (wr := [(f0, .inr (8, [.ref a1, .ref c1, .ref r1, .ref y1, .ref k1, .ref j1, .int ibc, .int ilc, .int igl, .int ibk, .int ifa, .int ibd])), (a1, .inr (5, [.ref a2, .ref a3, .int vz, .int vw, .int vh, .int vk])), (a2, .inl (cI, 144, .inl px)), (a3, .inl (cI, 9, .inl md)), (r1, .inr (5, [.ref r2, .ref r3, .int vzr, .int vwr, .int vhr, .int vkr])), (r2, .inl (cI, 144, .inl pxr)), (r3, .inl (cI, 9, .inl mdr))]) ⟨hx, hb, hml, hown, hts⟩ (c_isChoice l hcI 0) (va_cwS 1 hts (cs_gS mw_518 mw_519 mw_139 mw_77) rfl rfl rfl hd_TileForge_isChoice ⟨Nat.le_of_ble_eq_true rfl, Nat.le_of_ble_eq_true rfl⟩) hN hK hP hD hS hA [] [0, 1, 2, 3, 4, 5, 6] rfl rfl rfl rfl (by decide) rfl rfl hl.1 (Nat.le_of_ble_eq_true rfl) d_TileForge_apart_1 ⟨Nat.le_of_ble_eq_true rfl, Nat.le_of_ble_eq_true rfl⟩ (fun r1 w1 H locs hw hP hD hS => ?_)
  obtain ⟨rfl, rfl⟩ := hw
  have hP : va_P D vwCl [(f0, .inr (8, [.ref a1, .ref c1, .ref r1, .ref y1, .ref k1, .ref j1, .int ibc, .int ilc, .int igl, .int ibk, .int ifa, .int ibd])), (a1, .inr (5, [.ref a2, .ref a3, .int vz, .int vw, .int vh, .int vk])), (a2, .inl (cI, 144, .inl px)), (a3, .inl (cI, 9, .inl md)), (r1, .inr (5, [.ref r2, .ref r3, .int vzr, .int vwr, .int vhr, .int vkr])), (r2, .inl (cI, 144, .inl pxr)), (r3, .inl (cI, 9, .inl mdr))] H := hP
  have hD : va_D A [(f0, .inr (8, [.ref a1, .ref c1, .ref r1, .ref y1, .ref k1, .ref j1, .int ibc, .int ilc, .int igl, .int ibk, .int ifa, .int ibd])), (a1, .inr (5, [.ref a2, .ref a3, .int vz, .int vw, .int vh, .int vk])), (a2, .inl (cI, 144, .inl px)), (a3, .inl (cI, 9, .inl md)), (r1, .inr (5, [.ref r2, .ref r3, .int vzr, .int vwr, .int vhr, .int vkr])), (r2, .inl (cI, 144, .inl pxr)), (r3, .inl (cI, 9, .inl mdr))] := hD
  refine lv_if_eq (tgt := 14) hx hb d_TileForge_apart_4 (by decide) (fun c_4 => ?_) (fun c_4 => ?_)
  · have c_4 := cs_b0 c_4
    exact absurd (by decide) c_4
  · have c_4 := cs_b1 c_4
    refine lv_iload_n hx hb d_TileForge_apart_7 rfl (lv_at hl 2 rfl) ?_
    refine cs_Si (As := [.int 2]) (rest := []) (wr := [(f0, .inr (8, [.ref a1, .ref c1, .ref r1, .ref y1, .ref k1, .ref j1, .int ibc, .int ilc, .int igl, .int ibk, .int ifa, .int ibd])), (a1, .inr (5, [.ref a2, .ref a3, .int vz, .int vw, .int vh, .int vk])), (a2, .inl (cI, 144, .inl px)), (a3, .inl (cI, 9, .inl md)), (r1, .inr (5, [.ref r2, .ref r3, .int vzr, .int vwr, .int vhr, .int vkr])), (r2, .inl (cI, 144, .inl pxr)), (r3, .inl (cI, 9, .inl mdr))]) ⟨hx, hb, hml, hown, hts⟩ (c_isChoice l hcI 2) (va_cwS 1 hts (cs_gS mw_518 mw_519 mw_139 mw_77) rfl rfl rfl hd_TileForge_isChoice ⟨Nat.le_of_ble_eq_true rfl, Nat.le_of_ble_eq_true rfl⟩) hN hK hP hD hS hA [] [0, 1, 2, 3, 4, 5, 6] rfl rfl rfl rfl (by decide) rfl rfl hl.1 (Nat.le_of_ble_eq_true rfl) d_TileForge_apart_8 ⟨Nat.le_of_ble_eq_true rfl, Nat.le_of_ble_eq_true rfl⟩ (fun r2 w1 H locs hw hP hD hS => ?_)
    obtain ⟨rfl, rfl⟩ := hw
    have hP : va_P D vwCl [(f0, .inr (8, [.ref a1, .ref c1, .ref r1, .ref y1, .ref k1, .ref j1, .int ibc, .int ilc, .int igl, .int ibk, .int ifa, .int ibd])), (a1, .inr (5, [.ref a2, .ref a3, .int vz, .int vw, .int vh, .int vk])), (a2, .inl (cI, 144, .inl px)), (a3, .inl (cI, 9, .inl md)), (r1, .inr (5, [.ref r2, .ref r3, .int vzr, .int vwr, .int vhr, .int vkr])), (r2, .inl (cI, 144, .inl pxr)), (r3, .inl (cI, 9, .inl mdr))] H := hP
    have hD : va_D A [(f0, .inr (8, [.ref a1, .ref c1, .ref r1, .ref y1, .ref k1, .ref j1, .int ibc, .int ilc, .int igl, .int ibk, .int ifa, .int ibd])), (a1, .inr (5, [.ref a2, .ref a3, .int vz, .int vw, .int vh, .int vk])), (a2, .inl (cI, 144, .inl px)), (a3, .inl (cI, 9, .inl md)), (r1, .inr (5, [.ref r2, .ref r3, .int vzr, .int vwr, .int vhr, .int vkr])), (r2, .inl (cI, 144, .inl pxr)), (r3, .inl (cI, 9, .inl mdr))] := hD
    refine lv_if_ne (tgt := 22) hx hb d_TileForge_apart_11 (by decide) (fun c_11 => ?_) (fun c_11 => ?_)
    · have c_11 := cs_b1 c_11
      refine lv_aload_n hx hb d_TileForge_apart_22 rfl (lv_at hl 0 rfl) ?_
      refine lv_iload_n hx hb d_TileForge_apart_23 rfl (lv_at hl 1 rfl) ?_
      refine cs_Vr (As := [.int 0]) (rest := []) (wr := [(a1, .inr (5, [.ref a2, .ref a3, .int vz, .int vw, .int vh, .int vk])), (a2, .inl (cI, 144, .inl px)), (a3, .inl (cI, 9, .inl md)), (r1, .inr (5, [.ref r2, .ref r3, .int vzr, .int vwr, .int vhr, .int vkr])), (r2, .inl (cI, 144, .inl pxr)), (r3, .inl (cI, 9, .inl mdr))]) ⟨hx, hb, hml, hown, hts⟩ (c_tf_choose0 l hcI f0 a1 c1 r1 y1 k1 j1 ibc ilc igl ibk ifa ibd) (cwV 1 hts (cs_gV mw_520 mw_521 mw_522 mw_139 mw_472) rfl rfl rfl ⟨rfl, hd_TileForge_choose⟩ ⟨Nat.le_of_ble_eq_true rfl, Nat.le_of_ble_eq_true rfl⟩) hN hK hP hD hS hA [0] [1, 2, 3, 4, 5, 6] rfl rfl rfl rfl (by decide) (ci := 8) rfl rfl rfl rfl rfl hl.1 (Nat.le_of_ble_eq_true rfl) d_TileForge_apart_24 ⟨Nat.le_of_ble_eq_true rfl, Nat.le_of_ble_eq_true rfl⟩ (fun r3 w1 H locs hw hP hD hS => ?_)
      obtain ⟨hrr, rfl⟩ := hw
      have hrr := hrr.symm
      subst hrr
      have hP : va_P D vwCl [(a1, .inr (5, [.ref a2, .ref a3, .int vz, .int vw, .int vh, .int vk])), (a2, .inl (cI, 144, .inl px)), (a3, .inl (cI, 9, .inl md)), (r1, .inr (5, [.ref r2, .ref r3, .int vzr, .int vwr, .int vhr, .int vkr])), (r2, .inl (cI, 144, .inl pxr)), (r3, .inl (cI, 9, .inl mdr)), (f0, .inr (8, [.ref a1, .ref c1, .ref r1, .ref y1, .ref k1, .ref j1, .int ibc, .int ilc, .int igl, .int ibk, .int ifa, .int ibd]))] H := hP
      have hD : va_D A [(a1, .inr (5, [.ref a2, .ref a3, .int vz, .int vw, .int vh, .int vk])), (a2, .inl (cI, 144, .inl px)), (a3, .inl (cI, 9, .inl md)), (r1, .inr (5, [.ref r2, .ref r3, .int vzr, .int vwr, .int vhr, .int vkr])), (r2, .inl (cI, 144, .inl pxr)), (r3, .inl (cI, 9, .inl mdr)), (f0, .inr (8, [.ref a1, .ref c1, .ref r1, .ref y1, .ref k1, .ref j1, .int ibc, .int ilc, .int igl, .int ibk, .int ifa, .int ibd]))] := hD
      refine lv_astore_n (lv' := [(3, .ref a1), (0, .ref f0), (1, .int 0), (2, .int 2)]) hx hb d_TileForge_apart_27 rfl hl (by decide) rfl (fun ls hl => ?_)
      refine lv_aload_n hx hb d_TileForge_apart_28 rfl (lv_at hl 1 rfl) ?_
      refine lv_iload_n hx hb d_TileForge_apart_29 rfl (lv_at hl 3 rfl) ?_
      refine cs_Vr (As := [.int 2]) (rest := []) (wr := [(a1, .inr (5, [.ref a2, .ref a3, .int vz, .int vw, .int vh, .int vk])), (a2, .inl (cI, 144, .inl px)), (a3, .inl (cI, 9, .inl md)), (r1, .inr (5, [.ref r2, .ref r3, .int vzr, .int vwr, .int vhr, .int vkr])), (r2, .inl (cI, 144, .inl pxr)), (r3, .inl (cI, 9, .inl mdr))]) ⟨hx, hb, hml, hown, hts⟩ (c_tf_choose2 l hcI f0 a1 c1 r1 y1 k1 j1 ibc ilc igl ibk ifa ibd) (cwV 1 hts (cs_gV mw_520 mw_521 mw_522 mw_139 mw_472) rfl rfl rfl ⟨rfl, hd_TileForge_choose⟩ ⟨Nat.le_of_ble_eq_true rfl, Nat.le_of_ble_eq_true rfl⟩) hN hK hP hD hS hA [6] [0, 1, 2, 3, 4, 5] rfl rfl rfl rfl (by decide) (ci := 8) rfl rfl rfl rfl rfl hl.1 (Nat.le_of_ble_eq_true rfl) d_TileForge_apart_30 ⟨Nat.le_of_ble_eq_true rfl, Nat.le_of_ble_eq_true rfl⟩ (fun r4 w1 H locs hw hP hD hS => ?_)
      obtain ⟨hrr, rfl⟩ := hw
      have hrr := hrr.symm
      subst hrr
      have hP : va_P D vwCl [(a1, .inr (5, [.ref a2, .ref a3, .int vz, .int vw, .int vh, .int vk])), (a2, .inl (cI, 144, .inl px)), (a3, .inl (cI, 9, .inl md)), (r1, .inr (5, [.ref r2, .ref r3, .int vzr, .int vwr, .int vhr, .int vkr])), (r2, .inl (cI, 144, .inl pxr)), (r3, .inl (cI, 9, .inl mdr)), (f0, .inr (8, [.ref a1, .ref c1, .ref r1, .ref y1, .ref k1, .ref j1, .int ibc, .int ilc, .int igl, .int ibk, .int ifa, .int ibd]))] H := hP
      have hD : va_D A [(a1, .inr (5, [.ref a2, .ref a3, .int vz, .int vw, .int vh, .int vk])), (a2, .inl (cI, 144, .inl px)), (a3, .inl (cI, 9, .inl md)), (r1, .inr (5, [.ref r2, .ref r3, .int vzr, .int vwr, .int vhr, .int vkr])), (r2, .inl (cI, 144, .inl pxr)), (r3, .inl (cI, 9, .inl mdr)), (f0, .inr (8, [.ref a1, .ref c1, .ref r1, .ref y1, .ref k1, .ref j1, .int ibc, .int ilc, .int igl, .int ibk, .int ifa, .int ibd]))] := hD
      refine lv_astore (lv' := [(4, .ref r1), (3, .ref a1), (0, .ref f0), (1, .int 0), (2, .int 2)]) hx hb d_TileForge_apart_33 hl (by decide) rfl (fun ls hl => ?_)
      refine lv_aload_n hx hb d_TileForge_apart_35 rfl (lv_at hl 1 rfl) ?_
      refine va_get (D := D) (ci := 5) (v := .int vz) (C := "TileForge$Picture") (T := T_Picture) (N := 6) hx hb hts (cs_in in_Picture) hown hK hP 0 rfl rfl 2 (by decide) (hts _ (cs_m mw_523)) (fun _ h9 => h9) rfl d_TileForge_apart_36 ?_
      refine lv_if_eq (tgt := 50) hx hb d_TileForge_apart_39 (by decide) (fun c_39 => ?_) (fun c_39 => ?_)
      · exact absurd c_39 hm1
      · refine lv_aload hx hb d_TileForge_apart_42 (lv_at hl 0 rfl) ?_
        refine va_get (D := D) (ci := 5) (v := .int vzr) (C := "TileForge$Picture") (T := T_Picture) (N := 6) hx hb hts (cs_in in_Picture) hown hK hP 3 rfl rfl 2 (by decide) (hts _ (cs_m mw_523)) (fun _ h9 => h9) rfl d_TileForge_apart_44 ?_
        refine lv_if_ne (tgt := 58) hx hb d_TileForge_apart_47 (by decide) (fun c_47 => ?_) (fun c_47 => ?_)
        · refine lv_aload_n hx hb d_TileForge_apart_58 rfl (lv_at hl 1 rfl) ?_
          refine va_get (D := D) (ci := 5) (v := .int vw) (C := "TileForge$Picture") (T := T_Picture) (N := 6) hx hb hts (cs_in in_Picture) hown hK hP 0 rfl rfl 3 (by decide) (hts _ (cs_m mw_478)) (fun _ h9 => h9) rfl d_TileForge_apart_59 ?_
          refine lv_aload hx hb d_TileForge_apart_62 (lv_at hl 0 rfl) ?_
          refine va_get (D := D) (ci := 5) (v := .int vwr) (C := "TileForge$Picture") (T := T_Picture) (N := 6) hx hb hts (cs_in in_Picture) hown hK hP 3 rfl rfl 3 (by decide) (hts _ (cs_m mw_478)) (fun _ h9 => h9) rfl d_TileForge_apart_64 ?_
          refine lv_icmp_ne (tgt := 82) hx hb d_TileForge_apart_67 (by decide) (fun c_67 => ?_) (fun c_67 => ?_)
          · have hP := hP.sub (ws' := [(f0, .inr (8, [.ref a1, .ref c1, .ref r1, .ref y1, .ref k1, .ref j1, .int ibc, .int ilc, .int igl, .int ibk, .int ifa, .int ibd])), (a1, .inr (5, [.ref a2, .ref a3, .int vz, .int vw, .int vh, .int vk])), (a2, .inl (cI, 144, .inl px)), (a3, .inl (cI, 9, .inl md)), (r1, .inr (5, [.ref r2, .ref r3, .int vzr, .int vwr, .int vhr, .int vkr])), (r2, .inl (cI, 144, .inl pxr)), (r3, .inl (cI, 9, .inl mdr))]) [6, 0, 1, 2, 3, 4, 5] rfl
            have hD := hD.sub (ws' := [(f0, .inr (8, [.ref a1, .ref c1, .ref r1, .ref y1, .ref k1, .ref j1, .int ibc, .int ilc, .int igl, .int ibk, .int ifa, .int ibd])), (a1, .inr (5, [.ref a2, .ref a3, .int vz, .int vw, .int vh, .int vk])), (a2, .inl (cI, 144, .inl px)), (a3, .inl (cI, 9, .inl md)), (r1, .inr (5, [.ref r2, .ref r3, .int vzr, .int vwr, .int vhr, .int vkr])), (r2, .inl (cI, 144, .inl pxr)), (r3, .inl (cI, 9, .inl mdr))]) [6, 0, 1, 2, 3, 4, 5] (by decide) rfl
            exact cx_thr (ix := 116) (ic := 118) (E := "java/lang/UnsupportedOperationException") (post := (q_tf_apartD02 cI f0 a1 c1 r1 y1 k1 j1 ibc ilc igl ibk ifa ibd a2 a3 px md vz vw vh vk r2 r3 pxr mdr vzr vwr vhr vkr)) hx hb hst (hl.1.trans hml.symm) B.named hts hown hX hP0 hAe mw_573 mw_574 mw_575 oa_UOE fi_UOE hK hP hD hS hlocks (Nat.le_of_ble_eq_true rfl) (Nat.le_of_ble_eq_true rfl) (Nat.le_of_ble_eq_true rfl) (Nat.le_of_ble_eq_true rfl) (Nat.le_of_ble_eq_true rfl) (Nat.le_of_ble_eq_true rfl) d_TileForge_apart_82 d_TileForge_apart_85 d_TileForge_apart_86 d_TileForge_apart_89  (show _ = _ from rfl)
          · refine lv_aload_n hx hb d_TileForge_apart_70 rfl (lv_at hl 1 rfl) ?_
            refine va_get (D := D) (ci := 5) (v := .int vh) (C := "TileForge$Picture") (T := T_Picture) (N := 6) hx hb hts (cs_in in_Picture) hown hK hP 0 rfl rfl 4 (by decide) (hts _ (cs_m mw_477)) (fun _ h9 => h9) rfl d_TileForge_apart_71 ?_
            refine lv_aload hx hb d_TileForge_apart_74 (lv_at hl 0 rfl) ?_
            refine va_get (D := D) (ci := 5) (v := .int vhr) (C := "TileForge$Picture") (T := T_Picture) (N := 6) hx hb hts (cs_in in_Picture) hown hK hP 3 rfl rfl 4 (by decide) (hts _ (cs_m mw_477)) (fun _ h9 => h9) rfl d_TileForge_apart_76 ?_
            refine lv_icmp_eq (tgt := 90) hx hb d_TileForge_apart_79 (by decide) (fun c_79 => ?_) (fun c_79 => ?_)
            · exact absurd (⟨c_67, c_79⟩ : vw = vwr ∧ vh = vhr) hbad
            · have hP := hP.sub (ws' := [(f0, .inr (8, [.ref a1, .ref c1, .ref r1, .ref y1, .ref k1, .ref j1, .int ibc, .int ilc, .int igl, .int ibk, .int ifa, .int ibd])), (a1, .inr (5, [.ref a2, .ref a3, .int vz, .int vw, .int vh, .int vk])), (a2, .inl (cI, 144, .inl px)), (a3, .inl (cI, 9, .inl md)), (r1, .inr (5, [.ref r2, .ref r3, .int vzr, .int vwr, .int vhr, .int vkr])), (r2, .inl (cI, 144, .inl pxr)), (r3, .inl (cI, 9, .inl mdr))]) [6, 0, 1, 2, 3, 4, 5] rfl
              have hD := hD.sub (ws' := [(f0, .inr (8, [.ref a1, .ref c1, .ref r1, .ref y1, .ref k1, .ref j1, .int ibc, .int ilc, .int igl, .int ibk, .int ifa, .int ibd])), (a1, .inr (5, [.ref a2, .ref a3, .int vz, .int vw, .int vh, .int vk])), (a2, .inl (cI, 144, .inl px)), (a3, .inl (cI, 9, .inl md)), (r1, .inr (5, [.ref r2, .ref r3, .int vzr, .int vwr, .int vhr, .int vkr])), (r2, .inl (cI, 144, .inl pxr)), (r3, .inl (cI, 9, .inl mdr))]) [6, 0, 1, 2, 3, 4, 5] (by decide) rfl
              exact cx_thr (ix := 116) (ic := 118) (E := "java/lang/UnsupportedOperationException") (post := (q_tf_apartD02 cI f0 a1 c1 r1 y1 k1 j1 ibc ilc igl ibk ifa ibd a2 a3 px md vz vw vh vk r2 r3 pxr mdr vzr vwr vhr vkr)) hx hb hst (hl.1.trans hml.symm) B.named hts hown hX hP0 hAe mw_573 mw_574 mw_575 oa_UOE fi_UOE hK hP hD hS hlocks (Nat.le_of_ble_eq_true rfl) (Nat.le_of_ble_eq_true rfl) (Nat.le_of_ble_eq_true rfl) (Nat.le_of_ble_eq_true rfl) (Nat.le_of_ble_eq_true rfl) (Nat.le_of_ble_eq_true rfl) d_TileForge_apart_82 d_TileForge_apart_85 d_TileForge_apart_86 d_TileForge_apart_89  (show _ = _ from rfl)
        · exact absurd c_47 hm2
    · have c_11 := cs_b0 c_11
      exact absurd (by decide) c_11
def q_tf_apartC10 (cI : ClassId) (f0 : Nat) (a1 : Nat) (c1 : Nat) (r1 : Nat) (y1 : Nat) (k1 : Nat) (j1 : Nat) (ibc : Int32) (ilc : Int32) (igl : Int32) (ibk : Int32) (ifa : Int32) (ibd : Int32) (c2 : Nat) (c3 : Nat) (pxc : Nat → Int32) (mdc : Nat → Int32) (vzc : Int32) (vwc : Int32) (vhc : Int32) (vkc : Int32) (a2 : Nat) (a3 : Nat) (px : Nat → Int32) (md : Nat → Int32) (vz : Int32) (vw : Int32) (vh : Int32) (vk : Int32) : va_W → Prop := fun ww => ww = [(f0, .inr (8, [.ref a1, .ref c1, .ref r1, .ref y1, .ref k1, .ref j1, .int ibc, .int ilc, .int igl, .int ibk, .int ifa, .int ibd])), (c1, .inr (5, [.ref c2, .ref c3, .int vzc, .int vwc, .int vhc, .int vkc])), (c2, .inl (cI, 144, .inl pxc)), (c3, .inl (cI, 9, .inl mdc)), (a1, .inr (5, [.ref a2, .ref a3, .int vz, .int vw, .int vh, .int vk])), (a2, .inl (cI, 144, .inl px)), (a3, .inl (cI, 9, .inl md))]
set_option maxHeartbeats 4000000 in
set_option maxRecDepth 100000 in
theorem c_tf_apartC10 (l : Launch) (hst : l.stackTraces = false) {D : va_G} {tys : List (ClassId × FieldType)} {cI : ClassId} (hcI : tys[0]? = some (cI, .int)) (f0 : Nat) (a1 : Nat) (c1 : Nat) (r1 : Nat) (y1 : Nat) (k1 : Nat) (j1 : Nat) (ibc : Int32) (ilc : Int32) (igl : Int32) (ibk : Int32) (ifa : Int32) (ibd : Int32) (c2 : Nat) (c3 : Nat) (pxc : Nat → Int32) (mdc : Nat → Int32) (vzc : Int32) (vwc : Int32) (vhc : Int32) (vkc : Int32) (a2 : Nat) (a3 : Nat) (px : Nat → Int32) (md : Nat → Int32) (vz : Int32) (vw : Int32) (vh : Int32) (vk : Int32) (hbad : ¬ (¬ vzc = 0 ∧ ¬ vz = 0)) : CxE l D vwCl tys y_TileForge_apart ws_TileForge_apart ({ frames := 6, cells := 1, slots := 6, locals := 81 } : Room) [.ref f0, .int 1, .int 0] [(f0, .inr (8, [.ref a1, .ref c1, .ref r1, .ref y1, .ref k1, .ref j1, .int ibc, .int ilc, .int igl, .int ibk, .int ifa, .int ibd])), (c1, .inr (5, [.ref c2, .ref c3, .int vzc, .int vwc, .int vhc, .int vkc])), (c2, .inl (cI, 144, .inl pxc)), (c3, .inl (cI, 9, .inl mdc)), (a1, .inr (5, [.ref a2, .ref a3, .int vz, .int vw, .int vh, .int vk])), (a2, .inl (cI, 144, .inl px)), (a3, .inl (cI, 9, .inl md))] (q_tf_apartC10 cI f0 a1 c1 r1 y1 k1 j1 ibc ilc igl ibk ifa ibd c2 c3 pxc mdc vzc vwc vhc vkc a2 a3 px md vz vw vh vk) "java/lang/IllegalStateException" 1 6 := by
  intro sz
  refine cx_ofW (cc := prog_1_method_11_code) (maxL := 5) (ret := (some .double)) (by decide) rfl ?_
  intro p e s m args below meth c s₁ B hml hv
  obtain ⟨rfl, ⟨hsz, hP, hK, hD0, hN⟩, hX⟩ := hv
  have hx := B.exec
  have hb := B.bytes
  have hr := B.returns
  have hts := atoms_spec (ws := ws_TileForge_apart) B.pre
  have hown : s.vm.findClass "TileForge" = some m.cls := findClass_of_methodNamed B.named
  have hlocks := B.notSynchronized
  subst hsz
  have hD := hD0.self (sz := s.heap.size)
  generalize hAe : va_A [(f0, .inr (8, [.ref a1, .ref c1, .ref r1, .ref y1, .ref k1, .ref j1, .int ibc, .int ilc, .int igl, .int ibk, .int ifa, .int ibd])), (c1, .inr (5, [.ref c2, .ref c3, .int vzc, .int vwc, .int vhc, .int vkc])), (c2, .inl (cI, 144, .inl pxc)), (c3, .inl (cI, 9, .inl mdc)), (a1, .inr (5, [.ref a2, .ref a3, .int vz, .int vw, .int vh, .int vk])), (a2, .inl (cI, 144, .inl px)), (a3, .inl (cI, 9, .inl md))] s.heap.size = A at hD ⊢
  have hA : ∀ q : Nat, s.heap.size ≤ q → A q := fun q h => by rw [← hAe]; exact Or.inr h
  have hS : va_S A s.heap s.heap [] := va_S.rf
  have hP : va_P D vwCl [(f0, .inr (8, [.ref a1, .ref c1, .ref r1, .ref y1, .ref k1, .ref j1, .int ibc, .int ilc, .int igl, .int ibk, .int ifa, .int ibd])), (c1, .inr (5, [.ref c2, .ref c3, .int vzc, .int vwc, .int vhc, .int vkc])), (c2, .inl (cI, 144, .inl pxc)), (c3, .inl (cI, 9, .inl mdc)), (a1, .inr (5, [.ref a2, .ref a3, .int vz, .int vw, .int vh, .int vk])), (a2, .inl (cI, 144, .inl px)), (a3, .inl (cI, 9, .inl md))] s.heap := hP
  have hP0 := hP
  have hl := lv_entry ([.ref f0, .int 1, .int 0]) (n := 5) (Nat.le_of_ble_eq_true rfl)
  rw [lg_entry_eq]
  generalize (lg_sl ([.ref f0, .int 1, .int 0]) ++ List.replicate (5 - (lg_sl ([.ref f0, .int 1, .int 0])).length) Slot.unset).toArray = ls at hl ⊢
  have hl : lv_has ls 5 [(0, .ref f0), (1, .int 1), (2, .int 0)] := hl
  refine lv_iload_n hx hb d_TileForge_apart_0 rfl (lv_at hl 1 rfl) ?_
  refine cs_Si (As := [.int 1]) (rest := []) (wr := [(f0, .inr (8, [.ref a1, .ref c1, .ref r1, .ref y1, .ref k1, .ref j1, .int ibc, .int ilc, .int igl, .int ibk, .int ifa, .int ibd])), (c1, .inr (5, [.ref c2, .ref c3, .int vzc, .int vwc, .int vhc, .int vkc])), (c2, .inl (cI, 144, .inl pxc)), (c3, .inl (cI, 9, .inl mdc)), (a1, .inr (5, [.ref a2, .ref a3, .int vz, .int vw, .int vh, .int vk])), (a2, .inl (cI, 144, .inl px)), (a3, .inl (cI, 9, .inl md))]) ⟨hx, hb, hml, hown, hts⟩ (c_isChoice l hcI 1) (va_cwS 1 hts (cs_gS mw_518 mw_519 mw_139 mw_77) rfl rfl rfl hd_TileForge_isChoice ⟨Nat.le_of_ble_eq_true rfl, Nat.le_of_ble_eq_true rfl⟩) hN hK hP hD hS hA [] [0, 1, 2, 3, 4, 5, 6] rfl rfl rfl rfl (by decide) rfl rfl hl.1 (Nat.le_of_ble_eq_true rfl) d_TileForge_apart_1 ⟨Nat.le_of_ble_eq_true rfl, Nat.le_of_ble_eq_true rfl⟩ (fun r1 w1 H locs hw hP hD hS => ?_)
  obtain ⟨rfl, rfl⟩ := hw
  have hP : va_P D vwCl [(f0, .inr (8, [.ref a1, .ref c1, .ref r1, .ref y1, .ref k1, .ref j1, .int ibc, .int ilc, .int igl, .int ibk, .int ifa, .int ibd])), (c1, .inr (5, [.ref c2, .ref c3, .int vzc, .int vwc, .int vhc, .int vkc])), (c2, .inl (cI, 144, .inl pxc)), (c3, .inl (cI, 9, .inl mdc)), (a1, .inr (5, [.ref a2, .ref a3, .int vz, .int vw, .int vh, .int vk])), (a2, .inl (cI, 144, .inl px)), (a3, .inl (cI, 9, .inl md))] H := hP
  have hD : va_D A [(f0, .inr (8, [.ref a1, .ref c1, .ref r1, .ref y1, .ref k1, .ref j1, .int ibc, .int ilc, .int igl, .int ibk, .int ifa, .int ibd])), (c1, .inr (5, [.ref c2, .ref c3, .int vzc, .int vwc, .int vhc, .int vkc])), (c2, .inl (cI, 144, .inl pxc)), (c3, .inl (cI, 9, .inl mdc)), (a1, .inr (5, [.ref a2, .ref a3, .int vz, .int vw, .int vh, .int vk])), (a2, .inl (cI, 144, .inl px)), (a3, .inl (cI, 9, .inl md))] := hD
  refine lv_if_eq (tgt := 14) hx hb d_TileForge_apart_4 (by decide) (fun c_4 => ?_) (fun c_4 => ?_)
  · have c_4 := cs_b0 c_4
    exact absurd (by decide) c_4
  · have c_4 := cs_b1 c_4
    refine lv_iload_n hx hb d_TileForge_apart_7 rfl (lv_at hl 2 rfl) ?_
    refine cs_Si (As := [.int 0]) (rest := []) (wr := [(f0, .inr (8, [.ref a1, .ref c1, .ref r1, .ref y1, .ref k1, .ref j1, .int ibc, .int ilc, .int igl, .int ibk, .int ifa, .int ibd])), (c1, .inr (5, [.ref c2, .ref c3, .int vzc, .int vwc, .int vhc, .int vkc])), (c2, .inl (cI, 144, .inl pxc)), (c3, .inl (cI, 9, .inl mdc)), (a1, .inr (5, [.ref a2, .ref a3, .int vz, .int vw, .int vh, .int vk])), (a2, .inl (cI, 144, .inl px)), (a3, .inl (cI, 9, .inl md))]) ⟨hx, hb, hml, hown, hts⟩ (c_isChoice l hcI 0) (va_cwS 1 hts (cs_gS mw_518 mw_519 mw_139 mw_77) rfl rfl rfl hd_TileForge_isChoice ⟨Nat.le_of_ble_eq_true rfl, Nat.le_of_ble_eq_true rfl⟩) hN hK hP hD hS hA [] [0, 1, 2, 3, 4, 5, 6] rfl rfl rfl rfl (by decide) rfl rfl hl.1 (Nat.le_of_ble_eq_true rfl) d_TileForge_apart_8 ⟨Nat.le_of_ble_eq_true rfl, Nat.le_of_ble_eq_true rfl⟩ (fun r2 w1 H locs hw hP hD hS => ?_)
    obtain ⟨rfl, rfl⟩ := hw
    have hP : va_P D vwCl [(f0, .inr (8, [.ref a1, .ref c1, .ref r1, .ref y1, .ref k1, .ref j1, .int ibc, .int ilc, .int igl, .int ibk, .int ifa, .int ibd])), (c1, .inr (5, [.ref c2, .ref c3, .int vzc, .int vwc, .int vhc, .int vkc])), (c2, .inl (cI, 144, .inl pxc)), (c3, .inl (cI, 9, .inl mdc)), (a1, .inr (5, [.ref a2, .ref a3, .int vz, .int vw, .int vh, .int vk])), (a2, .inl (cI, 144, .inl px)), (a3, .inl (cI, 9, .inl md))] H := hP
    have hD : va_D A [(f0, .inr (8, [.ref a1, .ref c1, .ref r1, .ref y1, .ref k1, .ref j1, .int ibc, .int ilc, .int igl, .int ibk, .int ifa, .int ibd])), (c1, .inr (5, [.ref c2, .ref c3, .int vzc, .int vwc, .int vhc, .int vkc])), (c2, .inl (cI, 144, .inl pxc)), (c3, .inl (cI, 9, .inl mdc)), (a1, .inr (5, [.ref a2, .ref a3, .int vz, .int vw, .int vh, .int vk])), (a2, .inl (cI, 144, .inl px)), (a3, .inl (cI, 9, .inl md))] := hD
    refine lv_if_ne (tgt := 22) hx hb d_TileForge_apart_11 (by decide) (fun c_11 => ?_) (fun c_11 => ?_)
    · have c_11 := cs_b1 c_11
      refine lv_aload_n hx hb d_TileForge_apart_22 rfl (lv_at hl 0 rfl) ?_
      refine lv_iload_n hx hb d_TileForge_apart_23 rfl (lv_at hl 1 rfl) ?_
      refine cs_Vr (As := [.int 1]) (rest := []) (wr := [(c1, .inr (5, [.ref c2, .ref c3, .int vzc, .int vwc, .int vhc, .int vkc])), (c2, .inl (cI, 144, .inl pxc)), (c3, .inl (cI, 9, .inl mdc)), (a1, .inr (5, [.ref a2, .ref a3, .int vz, .int vw, .int vh, .int vk])), (a2, .inl (cI, 144, .inl px)), (a3, .inl (cI, 9, .inl md))]) ⟨hx, hb, hml, hown, hts⟩ (c_tf_choose1 l hcI f0 a1 c1 r1 y1 k1 j1 ibc ilc igl ibk ifa ibd) (cwV 1 hts (cs_gV mw_520 mw_521 mw_522 mw_139 mw_472) rfl rfl rfl ⟨rfl, hd_TileForge_choose⟩ ⟨Nat.le_of_ble_eq_true rfl, Nat.le_of_ble_eq_true rfl⟩) hN hK hP hD hS hA [0] [1, 2, 3, 4, 5, 6] rfl rfl rfl rfl (by decide) (ci := 8) rfl rfl rfl rfl rfl hl.1 (Nat.le_of_ble_eq_true rfl) d_TileForge_apart_24 ⟨Nat.le_of_ble_eq_true rfl, Nat.le_of_ble_eq_true rfl⟩ (fun r3 w1 H locs hw hP hD hS => ?_)
      obtain ⟨hrr, rfl⟩ := hw
      have hrr := hrr.symm
      subst hrr
      have hP : va_P D vwCl [(c1, .inr (5, [.ref c2, .ref c3, .int vzc, .int vwc, .int vhc, .int vkc])), (c2, .inl (cI, 144, .inl pxc)), (c3, .inl (cI, 9, .inl mdc)), (a1, .inr (5, [.ref a2, .ref a3, .int vz, .int vw, .int vh, .int vk])), (a2, .inl (cI, 144, .inl px)), (a3, .inl (cI, 9, .inl md)), (f0, .inr (8, [.ref a1, .ref c1, .ref r1, .ref y1, .ref k1, .ref j1, .int ibc, .int ilc, .int igl, .int ibk, .int ifa, .int ibd]))] H := hP
      have hD : va_D A [(c1, .inr (5, [.ref c2, .ref c3, .int vzc, .int vwc, .int vhc, .int vkc])), (c2, .inl (cI, 144, .inl pxc)), (c3, .inl (cI, 9, .inl mdc)), (a1, .inr (5, [.ref a2, .ref a3, .int vz, .int vw, .int vh, .int vk])), (a2, .inl (cI, 144, .inl px)), (a3, .inl (cI, 9, .inl md)), (f0, .inr (8, [.ref a1, .ref c1, .ref r1, .ref y1, .ref k1, .ref j1, .int ibc, .int ilc, .int igl, .int ibk, .int ifa, .int ibd]))] := hD
      refine lv_astore_n (lv' := [(3, .ref c1), (0, .ref f0), (1, .int 1), (2, .int 0)]) hx hb d_TileForge_apart_27 rfl hl (by decide) rfl (fun ls hl => ?_)
      refine lv_aload_n hx hb d_TileForge_apart_28 rfl (lv_at hl 1 rfl) ?_
      refine lv_iload_n hx hb d_TileForge_apart_29 rfl (lv_at hl 3 rfl) ?_
      refine cs_Vr (As := [.int 0]) (rest := []) (wr := [(c1, .inr (5, [.ref c2, .ref c3, .int vzc, .int vwc, .int vhc, .int vkc])), (c2, .inl (cI, 144, .inl pxc)), (c3, .inl (cI, 9, .inl mdc)), (a1, .inr (5, [.ref a2, .ref a3, .int vz, .int vw, .int vh, .int vk])), (a2, .inl (cI, 144, .inl px)), (a3, .inl (cI, 9, .inl md))]) ⟨hx, hb, hml, hown, hts⟩ (c_tf_choose0 l hcI f0 a1 c1 r1 y1 k1 j1 ibc ilc igl ibk ifa ibd) (cwV 1 hts (cs_gV mw_520 mw_521 mw_522 mw_139 mw_472) rfl rfl rfl ⟨rfl, hd_TileForge_choose⟩ ⟨Nat.le_of_ble_eq_true rfl, Nat.le_of_ble_eq_true rfl⟩) hN hK hP hD hS hA [6] [0, 1, 2, 3, 4, 5] rfl rfl rfl rfl (by decide) (ci := 8) rfl rfl rfl rfl rfl hl.1 (Nat.le_of_ble_eq_true rfl) d_TileForge_apart_30 ⟨Nat.le_of_ble_eq_true rfl, Nat.le_of_ble_eq_true rfl⟩ (fun r4 w1 H locs hw hP hD hS => ?_)
      obtain ⟨hrr, rfl⟩ := hw
      have hrr := hrr.symm
      subst hrr
      have hP : va_P D vwCl [(c1, .inr (5, [.ref c2, .ref c3, .int vzc, .int vwc, .int vhc, .int vkc])), (c2, .inl (cI, 144, .inl pxc)), (c3, .inl (cI, 9, .inl mdc)), (a1, .inr (5, [.ref a2, .ref a3, .int vz, .int vw, .int vh, .int vk])), (a2, .inl (cI, 144, .inl px)), (a3, .inl (cI, 9, .inl md)), (f0, .inr (8, [.ref a1, .ref c1, .ref r1, .ref y1, .ref k1, .ref j1, .int ibc, .int ilc, .int igl, .int ibk, .int ifa, .int ibd]))] H := hP
      have hD : va_D A [(c1, .inr (5, [.ref c2, .ref c3, .int vzc, .int vwc, .int vhc, .int vkc])), (c2, .inl (cI, 144, .inl pxc)), (c3, .inl (cI, 9, .inl mdc)), (a1, .inr (5, [.ref a2, .ref a3, .int vz, .int vw, .int vh, .int vk])), (a2, .inl (cI, 144, .inl px)), (a3, .inl (cI, 9, .inl md)), (f0, .inr (8, [.ref a1, .ref c1, .ref r1, .ref y1, .ref k1, .ref j1, .int ibc, .int ilc, .int igl, .int ibk, .int ifa, .int ibd]))] := hD
      refine lv_astore (lv' := [(4, .ref a1), (3, .ref c1), (0, .ref f0), (1, .int 1), (2, .int 0)]) hx hb d_TileForge_apart_33 hl (by decide) rfl (fun ls hl => ?_)
      refine lv_aload_n hx hb d_TileForge_apart_35 rfl (lv_at hl 1 rfl) ?_
      refine va_get (D := D) (ci := 5) (v := .int vzc) (C := "TileForge$Picture") (T := T_Picture) (N := 6) hx hb hts (cs_in in_Picture) hown hK hP 0 rfl rfl 2 (by decide) (hts _ (cs_m mw_523)) (fun _ h9 => h9) rfl d_TileForge_apart_36 ?_
      refine lv_if_eq (tgt := 50) hx hb d_TileForge_apart_39 (by decide) (fun c_39 => ?_) (fun c_39 => ?_)
      · have hP := hP.sub (ws' := [(f0, .inr (8, [.ref a1, .ref c1, .ref r1, .ref y1, .ref k1, .ref j1, .int ibc, .int ilc, .int igl, .int ibk, .int ifa, .int ibd])), (c1, .inr (5, [.ref c2, .ref c3, .int vzc, .int vwc, .int vhc, .int vkc])), (c2, .inl (cI, 144, .inl pxc)), (c3, .inl (cI, 9, .inl mdc)), (a1, .inr (5, [.ref a2, .ref a3, .int vz, .int vw, .int vh, .int vk])), (a2, .inl (cI, 144, .inl px)), (a3, .inl (cI, 9, .inl md))]) [6, 0, 1, 2, 3, 4, 5] rfl
        have hD := hD.sub (ws' := [(f0, .inr (8, [.ref a1, .ref c1, .ref r1, .ref y1, .ref k1, .ref j1, .int ibc, .int ilc, .int igl, .int ibk, .int ifa, .int ibd])), (c1, .inr (5, [.ref c2, .ref c3, .int vzc, .int vwc, .int vhc, .int vkc])), (c2, .inl (cI, 144, .inl pxc)), (c3, .inl (cI, 9, .inl mdc)), (a1, .inr (5, [.ref a2, .ref a3, .int vz, .int vw, .int vh, .int vk])), (a2, .inl (cI, 144, .inl px)), (a3, .inl (cI, 9, .inl md))]) [6, 0, 1, 2, 3, 4, 5] (by decide) rfl
        exact cx_thr (ix := 103) (ic := 105) (E := "java/lang/IllegalStateException") (post := (q_tf_apartC10 cI f0 a1 c1 r1 y1 k1 j1 ibc ilc igl ibk ifa ibd c2 c3 pxc mdc vzc vwc vhc vkc a2 a3 px md vz vw vh vk)) hx hb hst (hl.1.trans hml.symm) B.named hts hown hX hP0 hAe mw_576 mw_577 mw_578 oa_ISE fi_ISE hK hP hD hS hlocks (Nat.le_of_ble_eq_true rfl) (Nat.le_of_ble_eq_true rfl) (Nat.le_of_ble_eq_true rfl) (Nat.le_of_ble_eq_true rfl) (Nat.le_of_ble_eq_true rfl) (Nat.le_of_ble_eq_true rfl) d_TileForge_apart_50 d_TileForge_apart_53 d_TileForge_apart_54 d_TileForge_apart_57  (show _ = _ from rfl)
      · refine lv_aload hx hb d_TileForge_apart_42 (lv_at hl 0 rfl) ?_
        refine va_get (D := D) (ci := 5) (v := .int vz) (C := "TileForge$Picture") (T := T_Picture) (N := 6) hx hb hts (cs_in in_Picture) hown hK hP 3 rfl rfl 2 (by decide) (hts _ (cs_m mw_523)) (fun _ h9 => h9) rfl d_TileForge_apart_44 ?_
        refine lv_if_ne (tgt := 58) hx hb d_TileForge_apart_47 (by decide) (fun c_47 => ?_) (fun c_47 => ?_)
        · exact absurd (⟨c_39, c_47⟩ : ¬ vzc = 0 ∧ ¬ vz = 0) hbad
        · have hP := hP.sub (ws' := [(f0, .inr (8, [.ref a1, .ref c1, .ref r1, .ref y1, .ref k1, .ref j1, .int ibc, .int ilc, .int igl, .int ibk, .int ifa, .int ibd])), (c1, .inr (5, [.ref c2, .ref c3, .int vzc, .int vwc, .int vhc, .int vkc])), (c2, .inl (cI, 144, .inl pxc)), (c3, .inl (cI, 9, .inl mdc)), (a1, .inr (5, [.ref a2, .ref a3, .int vz, .int vw, .int vh, .int vk])), (a2, .inl (cI, 144, .inl px)), (a3, .inl (cI, 9, .inl md))]) [6, 0, 1, 2, 3, 4, 5] rfl
          have hD := hD.sub (ws' := [(f0, .inr (8, [.ref a1, .ref c1, .ref r1, .ref y1, .ref k1, .ref j1, .int ibc, .int ilc, .int igl, .int ibk, .int ifa, .int ibd])), (c1, .inr (5, [.ref c2, .ref c3, .int vzc, .int vwc, .int vhc, .int vkc])), (c2, .inl (cI, 144, .inl pxc)), (c3, .inl (cI, 9, .inl mdc)), (a1, .inr (5, [.ref a2, .ref a3, .int vz, .int vw, .int vh, .int vk])), (a2, .inl (cI, 144, .inl px)), (a3, .inl (cI, 9, .inl md))]) [6, 0, 1, 2, 3, 4, 5] (by decide) rfl
          exact cx_thr (ix := 103) (ic := 105) (E := "java/lang/IllegalStateException") (post := (q_tf_apartC10 cI f0 a1 c1 r1 y1 k1 j1 ibc ilc igl ibk ifa ibd c2 c3 pxc mdc vzc vwc vhc vkc a2 a3 px md vz vw vh vk)) hx hb hst (hl.1.trans hml.symm) B.named hts hown hX hP0 hAe mw_576 mw_577 mw_578 oa_ISE fi_ISE hK hP hD hS hlocks (Nat.le_of_ble_eq_true rfl) (Nat.le_of_ble_eq_true rfl) (Nat.le_of_ble_eq_true rfl) (Nat.le_of_ble_eq_true rfl) (Nat.le_of_ble_eq_true rfl) (Nat.le_of_ble_eq_true rfl) d_TileForge_apart_50 d_TileForge_apart_53 d_TileForge_apart_54 d_TileForge_apart_57  (show _ = _ from rfl)
    · have c_11 := cs_b0 c_11
      exact absurd (by decide) c_11
def q_tf_apartD10 (cI : ClassId) (f0 : Nat) (a1 : Nat) (c1 : Nat) (r1 : Nat) (y1 : Nat) (k1 : Nat) (j1 : Nat) (ibc : Int32) (ilc : Int32) (igl : Int32) (ibk : Int32) (ifa : Int32) (ibd : Int32) (c2 : Nat) (c3 : Nat) (pxc : Nat → Int32) (mdc : Nat → Int32) (vzc : Int32) (vwc : Int32) (vhc : Int32) (vkc : Int32) (a2 : Nat) (a3 : Nat) (px : Nat → Int32) (md : Nat → Int32) (vz : Int32) (vw : Int32) (vh : Int32) (vk : Int32) : va_W → Prop := fun ww => ww = [(f0, .inr (8, [.ref a1, .ref c1, .ref r1, .ref y1, .ref k1, .ref j1, .int ibc, .int ilc, .int igl, .int ibk, .int ifa, .int ibd])), (c1, .inr (5, [.ref c2, .ref c3, .int vzc, .int vwc, .int vhc, .int vkc])), (c2, .inl (cI, 144, .inl pxc)), (c3, .inl (cI, 9, .inl mdc)), (a1, .inr (5, [.ref a2, .ref a3, .int vz, .int vw, .int vh, .int vk])), (a2, .inl (cI, 144, .inl px)), (a3, .inl (cI, 9, .inl md))]
set_option maxHeartbeats 4000000 in
set_option maxRecDepth 100000 in
theorem c_tf_apartD10 (l : Launch) (hst : l.stackTraces = false) {D : va_G} {tys : List (ClassId × FieldType)} {cI : ClassId} (hcI : tys[0]? = some (cI, .int)) (f0 : Nat) (a1 : Nat) (c1 : Nat) (r1 : Nat) (y1 : Nat) (k1 : Nat) (j1 : Nat) (ibc : Int32) (ilc : Int32) (igl : Int32) (ibk : Int32) (ifa : Int32) (ibd : Int32) (c2 : Nat) (c3 : Nat) (pxc : Nat → Int32) (mdc : Nat → Int32) (vzc : Int32) (vwc : Int32) (vhc : Int32) (vkc : Int32) (a2 : Nat) (a3 : Nat) (px : Nat → Int32) (md : Nat → Int32) (vz : Int32) (vw : Int32) (vh : Int32) (vk : Int32) (hm1 : ¬ vzc = 0) (hm2 : ¬ vz = 0) (hbad : ¬ (vwc = vw ∧ vhc = vh)) : CxE l D vwCl tys y_TileForge_apart ws_TileForge_apart ({ frames := 6, cells := 1, slots := 6, locals := 81 } : Room) [.ref f0, .int 1, .int 0] [(f0, .inr (8, [.ref a1, .ref c1, .ref r1, .ref y1, .ref k1, .ref j1, .int ibc, .int ilc, .int igl, .int ibk, .int ifa, .int ibd])), (c1, .inr (5, [.ref c2, .ref c3, .int vzc, .int vwc, .int vhc, .int vkc])), (c2, .inl (cI, 144, .inl pxc)), (c3, .inl (cI, 9, .inl mdc)), (a1, .inr (5, [.ref a2, .ref a3, .int vz, .int vw, .int vh, .int vk])), (a2, .inl (cI, 144, .inl px)), (a3, .inl (cI, 9, .inl md))] (q_tf_apartD10 cI f0 a1 c1 r1 y1 k1 j1 ibc ilc igl ibk ifa ibd c2 c3 pxc mdc vzc vwc vhc vkc a2 a3 px md vz vw vh vk) "java/lang/UnsupportedOperationException" 1 6 := by
  intro sz
  refine cx_ofW (cc := prog_1_method_11_code) (maxL := 5) (ret := (some .double)) (by decide) rfl ?_
  intro p e s m args below meth c s₁ B hml hv
  obtain ⟨rfl, ⟨hsz, hP, hK, hD0, hN⟩, hX⟩ := hv
  have hx := B.exec
  have hb := B.bytes
  have hr := B.returns
  have hts := atoms_spec (ws := ws_TileForge_apart) B.pre
  have hown : s.vm.findClass "TileForge" = some m.cls := findClass_of_methodNamed B.named
  have hlocks := B.notSynchronized
  subst hsz
  have hD := hD0.self (sz := s.heap.size)
  generalize hAe : va_A [(f0, .inr (8, [.ref a1, .ref c1, .ref r1, .ref y1, .ref k1, .ref j1, .int ibc, .int ilc, .int igl, .int ibk, .int ifa, .int ibd])), (c1, .inr (5, [.ref c2, .ref c3, .int vzc, .int vwc, .int vhc, .int vkc])), (c2, .inl (cI, 144, .inl pxc)), (c3, .inl (cI, 9, .inl mdc)), (a1, .inr (5, [.ref a2, .ref a3, .int vz, .int vw, .int vh, .int vk])), (a2, .inl (cI, 144, .inl px)), (a3, .inl (cI, 9, .inl md))] s.heap.size = A at hD ⊢
  have hA : ∀ q : Nat, s.heap.size ≤ q → A q := fun q h => by rw [← hAe]; exact Or.inr h
  have hS : va_S A s.heap s.heap [] := va_S.rf
  have hP : va_P D vwCl [(f0, .inr (8, [.ref a1, .ref c1, .ref r1, .ref y1, .ref k1, .ref j1, .int ibc, .int ilc, .int igl, .int ibk, .int ifa, .int ibd])), (c1, .inr (5, [.ref c2, .ref c3, .int vzc, .int vwc, .int vhc, .int vkc])), (c2, .inl (cI, 144, .inl pxc)), (c3, .inl (cI, 9, .inl mdc)), (a1, .inr (5, [.ref a2, .ref a3, .int vz, .int vw, .int vh, .int vk])), (a2, .inl (cI, 144, .inl px)), (a3, .inl (cI, 9, .inl md))] s.heap := hP
  have hP0 := hP
  have hl := lv_entry ([.ref f0, .int 1, .int 0]) (n := 5) (Nat.le_of_ble_eq_true rfl)
  rw [lg_entry_eq]
  generalize (lg_sl ([.ref f0, .int 1, .int 0]) ++ List.replicate (5 - (lg_sl ([.ref f0, .int 1, .int 0])).length) Slot.unset).toArray = ls at hl ⊢
  have hl : lv_has ls 5 [(0, .ref f0), (1, .int 1), (2, .int 0)] := hl
  refine lv_iload_n hx hb d_TileForge_apart_0 rfl (lv_at hl 1 rfl) ?_
  refine cs_Si (As := [.int 1]) (rest := []) (wr := [(f0, .inr (8, [.ref a1, .ref c1, .ref r1, .ref y1, .ref k1, .ref j1, .int ibc, .int ilc, .int igl, .int ibk, .int ifa, .int ibd])), (c1, .inr (5, [.ref c2, .ref c3, .int vzc, .int vwc, .int vhc, .int vkc])), (c2, .inl (cI, 144, .inl pxc)), (c3, .inl (cI, 9, .inl mdc)), (a1, .inr (5, [.ref a2, .ref a3, .int vz, .int vw, .int vh, .int vk])), (a2, .inl (cI, 144, .inl px)), (a3, .inl (cI, 9, .inl md))]) ⟨hx, hb, hml, hown, hts⟩ (c_isChoice l hcI 1) (va_cwS 1 hts (cs_gS mw_518 mw_519 mw_139 mw_77) rfl rfl rfl hd_TileForge_isChoice ⟨Nat.le_of_ble_eq_true rfl, Nat.le_of_ble_eq_true rfl⟩) hN hK hP hD hS hA [] [0, 1, 2, 3, 4, 5, 6] rfl rfl rfl rfl (by decide) rfl rfl hl.1 (Nat.le_of_ble_eq_true rfl) d_TileForge_apart_1 ⟨Nat.le_of_ble_eq_true rfl, Nat.le_of_ble_eq_true rfl⟩ (fun r1 w1 H locs hw hP hD hS => ?_)
  obtain ⟨rfl, rfl⟩ := hw
  have hP : va_P D vwCl [(f0, .inr (8, [.ref a1, .ref c1, .ref r1, .ref y1, .ref k1, .ref j1, .int ibc, .int ilc, .int igl, .int ibk, .int ifa, .int ibd])), (c1, .inr (5, [.ref c2, .ref c3, .int vzc, .int vwc, .int vhc, .int vkc])), (c2, .inl (cI, 144, .inl pxc)), (c3, .inl (cI, 9, .inl mdc)), (a1, .inr (5, [.ref a2, .ref a3, .int vz, .int vw, .int vh, .int vk])), (a2, .inl (cI, 144, .inl px)), (a3, .inl (cI, 9, .inl md))] H := hP
  have hD : va_D A [(f0, .inr (8, [.ref a1, .ref c1, .ref r1, .ref y1, .ref k1, .ref j1, .int ibc, .int ilc, .int igl, .int ibk, .int ifa, .int ibd])), (c1, .inr (5, [.ref c2, .ref c3, .int vzc, .int vwc, .int vhc, .int vkc])), (c2, .inl (cI, 144, .inl pxc)), (c3, .inl (cI, 9, .inl mdc)), (a1, .inr (5, [.ref a2, .ref a3, .int vz, .int vw, .int vh, .int vk])), (a2, .inl (cI, 144, .inl px)), (a3, .inl (cI, 9, .inl md))] := hD
  refine lv_if_eq (tgt := 14) hx hb d_TileForge_apart_4 (by decide) (fun c_4 => ?_) (fun c_4 => ?_)
  · have c_4 := cs_b0 c_4
    exact absurd (by decide) c_4
  · have c_4 := cs_b1 c_4
    refine lv_iload_n hx hb d_TileForge_apart_7 rfl (lv_at hl 2 rfl) ?_
    refine cs_Si (As := [.int 0]) (rest := []) (wr := [(f0, .inr (8, [.ref a1, .ref c1, .ref r1, .ref y1, .ref k1, .ref j1, .int ibc, .int ilc, .int igl, .int ibk, .int ifa, .int ibd])), (c1, .inr (5, [.ref c2, .ref c3, .int vzc, .int vwc, .int vhc, .int vkc])), (c2, .inl (cI, 144, .inl pxc)), (c3, .inl (cI, 9, .inl mdc)), (a1, .inr (5, [.ref a2, .ref a3, .int vz, .int vw, .int vh, .int vk])), (a2, .inl (cI, 144, .inl px)), (a3, .inl (cI, 9, .inl md))]) ⟨hx, hb, hml, hown, hts⟩ (c_isChoice l hcI 0) (va_cwS 1 hts (cs_gS mw_518 mw_519 mw_139 mw_77) rfl rfl rfl hd_TileForge_isChoice ⟨Nat.le_of_ble_eq_true rfl, Nat.le_of_ble_eq_true rfl⟩) hN hK hP hD hS hA [] [0, 1, 2, 3, 4, 5, 6] rfl rfl rfl rfl (by decide) rfl rfl hl.1 (Nat.le_of_ble_eq_true rfl) d_TileForge_apart_8 ⟨Nat.le_of_ble_eq_true rfl, Nat.le_of_ble_eq_true rfl⟩ (fun r2 w1 H locs hw hP hD hS => ?_)
    obtain ⟨rfl, rfl⟩ := hw
    have hP : va_P D vwCl [(f0, .inr (8, [.ref a1, .ref c1, .ref r1, .ref y1, .ref k1, .ref j1, .int ibc, .int ilc, .int igl, .int ibk, .int ifa, .int ibd])), (c1, .inr (5, [.ref c2, .ref c3, .int vzc, .int vwc, .int vhc, .int vkc])), (c2, .inl (cI, 144, .inl pxc)), (c3, .inl (cI, 9, .inl mdc)), (a1, .inr (5, [.ref a2, .ref a3, .int vz, .int vw, .int vh, .int vk])), (a2, .inl (cI, 144, .inl px)), (a3, .inl (cI, 9, .inl md))] H := hP
    have hD : va_D A [(f0, .inr (8, [.ref a1, .ref c1, .ref r1, .ref y1, .ref k1, .ref j1, .int ibc, .int ilc, .int igl, .int ibk, .int ifa, .int ibd])), (c1, .inr (5, [.ref c2, .ref c3, .int vzc, .int vwc, .int vhc, .int vkc])), (c2, .inl (cI, 144, .inl pxc)), (c3, .inl (cI, 9, .inl mdc)), (a1, .inr (5, [.ref a2, .ref a3, .int vz, .int vw, .int vh, .int vk])), (a2, .inl (cI, 144, .inl px)), (a3, .inl (cI, 9, .inl md))] := hD
    refine lv_if_ne (tgt := 22) hx hb d_TileForge_apart_11 (by decide) (fun c_11 => ?_) (fun c_11 => ?_)
    · have c_11 := cs_b1 c_11
      refine lv_aload_n hx hb d_TileForge_apart_22 rfl (lv_at hl 0 rfl) ?_
      refine lv_iload_n hx hb d_TileForge_apart_23 rfl (lv_at hl 1 rfl) ?_
      refine cs_Vr (As := [.int 1]) (rest := []) (wr := [(c1, .inr (5, [.ref c2, .ref c3, .int vzc, .int vwc, .int vhc, .int vkc])), (c2, .inl (cI, 144, .inl pxc)), (c3, .inl (cI, 9, .inl mdc)), (a1, .inr (5, [.ref a2, .ref a3, .int vz, .int vw, .int vh, .int vk])), (a2, .inl (cI, 144, .inl px)), (a3, .inl (cI, 9, .inl md))]) ⟨hx, hb, hml, hown, hts⟩ (c_tf_choose1 l hcI f0 a1 c1 r1 y1 k1 j1 ibc ilc igl ibk ifa ibd) (cwV 1 hts (cs_gV mw_520 mw_521 mw_522 mw_139 mw_472) rfl rfl rfl ⟨rfl, hd_TileForge_choose⟩ ⟨Nat.le_of_ble_eq_true rfl, Nat.le_of_ble_eq_true rfl⟩) hN hK hP hD hS hA [0] [1, 2, 3, 4, 5, 6] rfl rfl rfl rfl (by decide) (ci := 8) rfl rfl rfl rfl rfl hl.1 (Nat.le_of_ble_eq_true rfl) d_TileForge_apart_24 ⟨Nat.le_of_ble_eq_true rfl, Nat.le_of_ble_eq_true rfl⟩ (fun r3 w1 H locs hw hP hD hS => ?_)
      obtain ⟨hrr, rfl⟩ := hw
      have hrr := hrr.symm
      subst hrr
      have hP : va_P D vwCl [(c1, .inr (5, [.ref c2, .ref c3, .int vzc, .int vwc, .int vhc, .int vkc])), (c2, .inl (cI, 144, .inl pxc)), (c3, .inl (cI, 9, .inl mdc)), (a1, .inr (5, [.ref a2, .ref a3, .int vz, .int vw, .int vh, .int vk])), (a2, .inl (cI, 144, .inl px)), (a3, .inl (cI, 9, .inl md)), (f0, .inr (8, [.ref a1, .ref c1, .ref r1, .ref y1, .ref k1, .ref j1, .int ibc, .int ilc, .int igl, .int ibk, .int ifa, .int ibd]))] H := hP
      have hD : va_D A [(c1, .inr (5, [.ref c2, .ref c3, .int vzc, .int vwc, .int vhc, .int vkc])), (c2, .inl (cI, 144, .inl pxc)), (c3, .inl (cI, 9, .inl mdc)), (a1, .inr (5, [.ref a2, .ref a3, .int vz, .int vw, .int vh, .int vk])), (a2, .inl (cI, 144, .inl px)), (a3, .inl (cI, 9, .inl md)), (f0, .inr (8, [.ref a1, .ref c1, .ref r1, .ref y1, .ref k1, .ref j1, .int ibc, .int ilc, .int igl, .int ibk, .int ifa, .int ibd]))] := hD
      refine lv_astore_n (lv' := [(3, .ref c1), (0, .ref f0), (1, .int 1), (2, .int 0)]) hx hb d_TileForge_apart_27 rfl hl (by decide) rfl (fun ls hl => ?_)
      refine lv_aload_n hx hb d_TileForge_apart_28 rfl (lv_at hl 1 rfl) ?_
      refine lv_iload_n hx hb d_TileForge_apart_29 rfl (lv_at hl 3 rfl) ?_
      refine cs_Vr (As := [.int 0]) (rest := []) (wr := [(c1, .inr (5, [.ref c2, .ref c3, .int vzc, .int vwc, .int vhc, .int vkc])), (c2, .inl (cI, 144, .inl pxc)), (c3, .inl (cI, 9, .inl mdc)), (a1, .inr (5, [.ref a2, .ref a3, .int vz, .int vw, .int vh, .int vk])), (a2, .inl (cI, 144, .inl px)), (a3, .inl (cI, 9, .inl md))]) ⟨hx, hb, hml, hown, hts⟩ (c_tf_choose0 l hcI f0 a1 c1 r1 y1 k1 j1 ibc ilc igl ibk ifa ibd) (cwV 1 hts (cs_gV mw_520 mw_521 mw_522 mw_139 mw_472) rfl rfl rfl ⟨rfl, hd_TileForge_choose⟩ ⟨Nat.le_of_ble_eq_true rfl, Nat.le_of_ble_eq_true rfl⟩) hN hK hP hD hS hA [6] [0, 1, 2, 3, 4, 5] rfl rfl rfl rfl (by decide) (ci := 8) rfl rfl rfl rfl rfl hl.1 (Nat.le_of_ble_eq_true rfl) d_TileForge_apart_30 ⟨Nat.le_of_ble_eq_true rfl, Nat.le_of_ble_eq_true rfl⟩ (fun r4 w1 H locs hw hP hD hS => ?_)
      obtain ⟨hrr, rfl⟩ := hw
      have hrr := hrr.symm
      subst hrr
      have hP : va_P D vwCl [(c1, .inr (5, [.ref c2, .ref c3, .int vzc, .int vwc, .int vhc, .int vkc])), (c2, .inl (cI, 144, .inl pxc)), (c3, .inl (cI, 9, .inl mdc)), (a1, .inr (5, [.ref a2, .ref a3, .int vz, .int vw, .int vh, .int vk])), (a2, .inl (cI, 144, .inl px)), (a3, .inl (cI, 9, .inl md)), (f0, .inr (8, [.ref a1, .ref c1, .ref r1, .ref y1, .ref k1, .ref j1, .int ibc, .int ilc, .int igl, .int ibk, .int ifa, .int ibd]))] H := hP
      have hD : va_D A [(c1, .inr (5, [.ref c2, .ref c3, .int vzc, .int vwc, .int vhc, .int vkc])), (c2, .inl (cI, 144, .inl pxc)), (c3, .inl (cI, 9, .inl mdc)), (a1, .inr (5, [.ref a2, .ref a3, .int vz, .int vw, .int vh, .int vk])), (a2, .inl (cI, 144, .inl px)), (a3, .inl (cI, 9, .inl md)), (f0, .inr (8, [.ref a1, .ref c1, .ref r1, .ref y1, .ref k1, .ref j1, .int ibc, .int ilc, .int igl, .int ibk, .int ifa, .int ibd]))] := hD
      refine lv_astore (lv' := [(4, .ref a1), (3, .ref c1), (0, .ref f0), (1, .int 1), (2, .int 0)]) hx hb d_TileForge_apart_33 hl (by decide) rfl (fun ls hl => ?_)
      refine lv_aload_n hx hb d_TileForge_apart_35 rfl (lv_at hl 1 rfl) ?_
      refine va_get (D := D) (ci := 5) (v := .int vzc) (C := "TileForge$Picture") (T := T_Picture) (N := 6) hx hb hts (cs_in in_Picture) hown hK hP 0 rfl rfl 2 (by decide) (hts _ (cs_m mw_523)) (fun _ h9 => h9) rfl d_TileForge_apart_36 ?_
      refine lv_if_eq (tgt := 50) hx hb d_TileForge_apart_39 (by decide) (fun c_39 => ?_) (fun c_39 => ?_)
      · exact absurd c_39 hm1
      · refine lv_aload hx hb d_TileForge_apart_42 (lv_at hl 0 rfl) ?_
        refine va_get (D := D) (ci := 5) (v := .int vz) (C := "TileForge$Picture") (T := T_Picture) (N := 6) hx hb hts (cs_in in_Picture) hown hK hP 3 rfl rfl 2 (by decide) (hts _ (cs_m mw_523)) (fun _ h9 => h9) rfl d_TileForge_apart_44 ?_
        refine lv_if_ne (tgt := 58) hx hb d_TileForge_apart_47 (by decide) (fun c_47 => ?_) (fun c_47 => ?_)
        · refine lv_aload_n hx hb d_TileForge_apart_58 rfl (lv_at hl 1 rfl) ?_
          refine va_get (D := D) (ci := 5) (v := .int vwc) (C := "TileForge$Picture") (T := T_Picture) (N := 6) hx hb hts (cs_in in_Picture) hown hK hP 0 rfl rfl 3 (by decide) (hts _ (cs_m mw_478)) (fun _ h9 => h9) rfl d_TileForge_apart_59 ?_
          refine lv_aload hx hb d_TileForge_apart_62 (lv_at hl 0 rfl) ?_
          refine va_get (D := D) (ci := 5) (v := .int vw) (C := "TileForge$Picture") (T := T_Picture) (N := 6) hx hb hts (cs_in in_Picture) hown hK hP 3 rfl rfl 3 (by decide) (hts _ (cs_m mw_478)) (fun _ h9 => h9) rfl d_TileForge_apart_64 ?_
          refine lv_icmp_ne (tgt := 82) hx hb d_TileForge_apart_67 (by decide) (fun c_67 => ?_) (fun c_67 => ?_)
          · have hP := hP.sub (ws' := [(f0, .inr (8, [.ref a1, .ref c1, .ref r1, .ref y1, .ref k1, .ref j1, .int ibc, .int ilc, .int igl, .int ibk, .int ifa, .int ibd])), (c1, .inr (5, [.ref c2, .ref c3, .int vzc, .int vwc, .int vhc, .int vkc])), (c2, .inl (cI, 144, .inl pxc)), (c3, .inl (cI, 9, .inl mdc)), (a1, .inr (5, [.ref a2, .ref a3, .int vz, .int vw, .int vh, .int vk])), (a2, .inl (cI, 144, .inl px)), (a3, .inl (cI, 9, .inl md))]) [6, 0, 1, 2, 3, 4, 5] rfl
            have hD := hD.sub (ws' := [(f0, .inr (8, [.ref a1, .ref c1, .ref r1, .ref y1, .ref k1, .ref j1, .int ibc, .int ilc, .int igl, .int ibk, .int ifa, .int ibd])), (c1, .inr (5, [.ref c2, .ref c3, .int vzc, .int vwc, .int vhc, .int vkc])), (c2, .inl (cI, 144, .inl pxc)), (c3, .inl (cI, 9, .inl mdc)), (a1, .inr (5, [.ref a2, .ref a3, .int vz, .int vw, .int vh, .int vk])), (a2, .inl (cI, 144, .inl px)), (a3, .inl (cI, 9, .inl md))]) [6, 0, 1, 2, 3, 4, 5] (by decide) rfl
            exact cx_thr (ix := 116) (ic := 118) (E := "java/lang/UnsupportedOperationException") (post := (q_tf_apartD10 cI f0 a1 c1 r1 y1 k1 j1 ibc ilc igl ibk ifa ibd c2 c3 pxc mdc vzc vwc vhc vkc a2 a3 px md vz vw vh vk)) hx hb hst (hl.1.trans hml.symm) B.named hts hown hX hP0 hAe mw_573 mw_574 mw_575 oa_UOE fi_UOE hK hP hD hS hlocks (Nat.le_of_ble_eq_true rfl) (Nat.le_of_ble_eq_true rfl) (Nat.le_of_ble_eq_true rfl) (Nat.le_of_ble_eq_true rfl) (Nat.le_of_ble_eq_true rfl) (Nat.le_of_ble_eq_true rfl) d_TileForge_apart_82 d_TileForge_apart_85 d_TileForge_apart_86 d_TileForge_apart_89  (show _ = _ from rfl)
          · refine lv_aload_n hx hb d_TileForge_apart_70 rfl (lv_at hl 1 rfl) ?_
            refine va_get (D := D) (ci := 5) (v := .int vhc) (C := "TileForge$Picture") (T := T_Picture) (N := 6) hx hb hts (cs_in in_Picture) hown hK hP 0 rfl rfl 4 (by decide) (hts _ (cs_m mw_477)) (fun _ h9 => h9) rfl d_TileForge_apart_71 ?_
            refine lv_aload hx hb d_TileForge_apart_74 (lv_at hl 0 rfl) ?_
            refine va_get (D := D) (ci := 5) (v := .int vh) (C := "TileForge$Picture") (T := T_Picture) (N := 6) hx hb hts (cs_in in_Picture) hown hK hP 3 rfl rfl 4 (by decide) (hts _ (cs_m mw_477)) (fun _ h9 => h9) rfl d_TileForge_apart_76 ?_
            refine lv_icmp_eq (tgt := 90) hx hb d_TileForge_apart_79 (by decide) (fun c_79 => ?_) (fun c_79 => ?_)
            · exact absurd (⟨c_67, c_79⟩ : vwc = vw ∧ vhc = vh) hbad
            · have hP := hP.sub (ws' := [(f0, .inr (8, [.ref a1, .ref c1, .ref r1, .ref y1, .ref k1, .ref j1, .int ibc, .int ilc, .int igl, .int ibk, .int ifa, .int ibd])), (c1, .inr (5, [.ref c2, .ref c3, .int vzc, .int vwc, .int vhc, .int vkc])), (c2, .inl (cI, 144, .inl pxc)), (c3, .inl (cI, 9, .inl mdc)), (a1, .inr (5, [.ref a2, .ref a3, .int vz, .int vw, .int vh, .int vk])), (a2, .inl (cI, 144, .inl px)), (a3, .inl (cI, 9, .inl md))]) [6, 0, 1, 2, 3, 4, 5] rfl
              have hD := hD.sub (ws' := [(f0, .inr (8, [.ref a1, .ref c1, .ref r1, .ref y1, .ref k1, .ref j1, .int ibc, .int ilc, .int igl, .int ibk, .int ifa, .int ibd])), (c1, .inr (5, [.ref c2, .ref c3, .int vzc, .int vwc, .int vhc, .int vkc])), (c2, .inl (cI, 144, .inl pxc)), (c3, .inl (cI, 9, .inl mdc)), (a1, .inr (5, [.ref a2, .ref a3, .int vz, .int vw, .int vh, .int vk])), (a2, .inl (cI, 144, .inl px)), (a3, .inl (cI, 9, .inl md))]) [6, 0, 1, 2, 3, 4, 5] (by decide) rfl
              exact cx_thr (ix := 116) (ic := 118) (E := "java/lang/UnsupportedOperationException") (post := (q_tf_apartD10 cI f0 a1 c1 r1 y1 k1 j1 ibc ilc igl ibk ifa ibd c2 c3 pxc mdc vzc vwc vhc vkc a2 a3 px md vz vw vh vk)) hx hb hst (hl.1.trans hml.symm) B.named hts hown hX hP0 hAe mw_573 mw_574 mw_575 oa_UOE fi_UOE hK hP hD hS hlocks (Nat.le_of_ble_eq_true rfl) (Nat.le_of_ble_eq_true rfl) (Nat.le_of_ble_eq_true rfl) (Nat.le_of_ble_eq_true rfl) (Nat.le_of_ble_eq_true rfl) (Nat.le_of_ble_eq_true rfl) d_TileForge_apart_82 d_TileForge_apart_85 d_TileForge_apart_86 d_TileForge_apart_89  (show _ = _ from rfl)
        · exact absurd c_47 hm2
    · have c_11 := cs_b0 c_11
      exact absurd (by decide) c_11
def q_tf_apartC11 (cI : ClassId) (f0 : Nat) (a1 : Nat) (c1 : Nat) (r1 : Nat) (y1 : Nat) (k1 : Nat) (j1 : Nat) (ibc : Int32) (ilc : Int32) (igl : Int32) (ibk : Int32) (ifa : Int32) (ibd : Int32) (c2 : Nat) (c3 : Nat) (pxc : Nat → Int32) (mdc : Nat → Int32) (vzc : Int32) (vwc : Int32) (vhc : Int32) (vkc : Int32) : va_W → Prop := fun ww => ww = [(f0, .inr (8, [.ref a1, .ref c1, .ref r1, .ref y1, .ref k1, .ref j1, .int ibc, .int ilc, .int igl, .int ibk, .int ifa, .int ibd])), (c1, .inr (5, [.ref c2, .ref c3, .int vzc, .int vwc, .int vhc, .int vkc])), (c2, .inl (cI, 144, .inl pxc)), (c3, .inl (cI, 9, .inl mdc))]
set_option maxHeartbeats 4000000 in
set_option maxRecDepth 100000 in
theorem c_tf_apartC11 (l : Launch) (hst : l.stackTraces = false) {D : va_G} {tys : List (ClassId × FieldType)} {cI : ClassId} (hcI : tys[0]? = some (cI, .int)) (f0 : Nat) (a1 : Nat) (c1 : Nat) (r1 : Nat) (y1 : Nat) (k1 : Nat) (j1 : Nat) (ibc : Int32) (ilc : Int32) (igl : Int32) (ibk : Int32) (ifa : Int32) (ibd : Int32) (c2 : Nat) (c3 : Nat) (pxc : Nat → Int32) (mdc : Nat → Int32) (vzc : Int32) (vwc : Int32) (vhc : Int32) (vkc : Int32) (hbad : ¬ (¬ vzc = 0 ∧ ¬ vzc = 0)) : CxE l D vwCl tys y_TileForge_apart ws_TileForge_apart ({ frames := 6, cells := 1, slots := 6, locals := 81 } : Room) [.ref f0, .int 1, .int 1] [(f0, .inr (8, [.ref a1, .ref c1, .ref r1, .ref y1, .ref k1, .ref j1, .int ibc, .int ilc, .int igl, .int ibk, .int ifa, .int ibd])), (c1, .inr (5, [.ref c2, .ref c3, .int vzc, .int vwc, .int vhc, .int vkc])), (c2, .inl (cI, 144, .inl pxc)), (c3, .inl (cI, 9, .inl mdc))] (q_tf_apartC11 cI f0 a1 c1 r1 y1 k1 j1 ibc ilc igl ibk ifa ibd c2 c3 pxc mdc vzc vwc vhc vkc) "java/lang/IllegalStateException" 1 6 := by
  intro sz
  refine cx_ofW (cc := prog_1_method_11_code) (maxL := 5) (ret := (some .double)) (by decide) rfl ?_
  intro p e s m args below meth c s₁ B hml hv
  obtain ⟨rfl, ⟨hsz, hP, hK, hD0, hN⟩, hX⟩ := hv
  have hx := B.exec
  have hb := B.bytes
  have hr := B.returns
  have hts := atoms_spec (ws := ws_TileForge_apart) B.pre
  have hown : s.vm.findClass "TileForge" = some m.cls := findClass_of_methodNamed B.named
  have hlocks := B.notSynchronized
  subst hsz
  have hD := hD0.self (sz := s.heap.size)
  generalize hAe : va_A [(f0, .inr (8, [.ref a1, .ref c1, .ref r1, .ref y1, .ref k1, .ref j1, .int ibc, .int ilc, .int igl, .int ibk, .int ifa, .int ibd])), (c1, .inr (5, [.ref c2, .ref c3, .int vzc, .int vwc, .int vhc, .int vkc])), (c2, .inl (cI, 144, .inl pxc)), (c3, .inl (cI, 9, .inl mdc))] s.heap.size = A at hD ⊢
  have hA : ∀ q : Nat, s.heap.size ≤ q → A q := fun q h => by rw [← hAe]; exact Or.inr h
  have hS : va_S A s.heap s.heap [] := va_S.rf
  have hP : va_P D vwCl [(f0, .inr (8, [.ref a1, .ref c1, .ref r1, .ref y1, .ref k1, .ref j1, .int ibc, .int ilc, .int igl, .int ibk, .int ifa, .int ibd])), (c1, .inr (5, [.ref c2, .ref c3, .int vzc, .int vwc, .int vhc, .int vkc])), (c2, .inl (cI, 144, .inl pxc)), (c3, .inl (cI, 9, .inl mdc))] s.heap := hP
  have hP0 := hP
  have hl := lv_entry ([.ref f0, .int 1, .int 1]) (n := 5) (Nat.le_of_ble_eq_true rfl)
  rw [lg_entry_eq]
  generalize (lg_sl ([.ref f0, .int 1, .int 1]) ++ List.replicate (5 - (lg_sl ([.ref f0, .int 1, .int 1])).length) Slot.unset).toArray = ls at hl ⊢
  have hl : lv_has ls 5 [(0, .ref f0), (1, .int 1), (2, .int 1)] := hl
  refine lv_iload_n hx hb d_TileForge_apart_0 rfl (lv_at hl 1 rfl) ?_
  refine cs_Si (As := [.int 1]) (rest := []) (wr := [(f0, .inr (8, [.ref a1, .ref c1, .ref r1, .ref y1, .ref k1, .ref j1, .int ibc, .int ilc, .int igl, .int ibk, .int ifa, .int ibd])), (c1, .inr (5, [.ref c2, .ref c3, .int vzc, .int vwc, .int vhc, .int vkc])), (c2, .inl (cI, 144, .inl pxc)), (c3, .inl (cI, 9, .inl mdc))]) ⟨hx, hb, hml, hown, hts⟩ (c_isChoice l hcI 1) (va_cwS 1 hts (cs_gS mw_518 mw_519 mw_139 mw_77) rfl rfl rfl hd_TileForge_isChoice ⟨Nat.le_of_ble_eq_true rfl, Nat.le_of_ble_eq_true rfl⟩) hN hK hP hD hS hA [] [0, 1, 2, 3] rfl rfl rfl rfl (by decide) rfl rfl hl.1 (Nat.le_of_ble_eq_true rfl) d_TileForge_apart_1 ⟨Nat.le_of_ble_eq_true rfl, Nat.le_of_ble_eq_true rfl⟩ (fun r1 w1 H locs hw hP hD hS => ?_)
  obtain ⟨rfl, rfl⟩ := hw
  have hP : va_P D vwCl [(f0, .inr (8, [.ref a1, .ref c1, .ref r1, .ref y1, .ref k1, .ref j1, .int ibc, .int ilc, .int igl, .int ibk, .int ifa, .int ibd])), (c1, .inr (5, [.ref c2, .ref c3, .int vzc, .int vwc, .int vhc, .int vkc])), (c2, .inl (cI, 144, .inl pxc)), (c3, .inl (cI, 9, .inl mdc))] H := hP
  have hD : va_D A [(f0, .inr (8, [.ref a1, .ref c1, .ref r1, .ref y1, .ref k1, .ref j1, .int ibc, .int ilc, .int igl, .int ibk, .int ifa, .int ibd])), (c1, .inr (5, [.ref c2, .ref c3, .int vzc, .int vwc, .int vhc, .int vkc])), (c2, .inl (cI, 144, .inl pxc)), (c3, .inl (cI, 9, .inl mdc))] := hD
  refine lv_if_eq (tgt := 14) hx hb d_TileForge_apart_4 (by decide) (fun c_4 => ?_) (fun c_4 => ?_)
  · have c_4 := cs_b0 c_4
    exact absurd (by decide) c_4
  · have c_4 := cs_b1 c_4
    refine lv_iload_n hx hb d_TileForge_apart_7 rfl (lv_at hl 2 rfl) ?_
    refine cs_Si (As := [.int 1]) (rest := []) (wr := [(f0, .inr (8, [.ref a1, .ref c1, .ref r1, .ref y1, .ref k1, .ref j1, .int ibc, .int ilc, .int igl, .int ibk, .int ifa, .int ibd])), (c1, .inr (5, [.ref c2, .ref c3, .int vzc, .int vwc, .int vhc, .int vkc])), (c2, .inl (cI, 144, .inl pxc)), (c3, .inl (cI, 9, .inl mdc))]) ⟨hx, hb, hml, hown, hts⟩ (c_isChoice l hcI 1) (va_cwS 1 hts (cs_gS mw_518 mw_519 mw_139 mw_77) rfl rfl rfl hd_TileForge_isChoice ⟨Nat.le_of_ble_eq_true rfl, Nat.le_of_ble_eq_true rfl⟩) hN hK hP hD hS hA [] [0, 1, 2, 3] rfl rfl rfl rfl (by decide) rfl rfl hl.1 (Nat.le_of_ble_eq_true rfl) d_TileForge_apart_8 ⟨Nat.le_of_ble_eq_true rfl, Nat.le_of_ble_eq_true rfl⟩ (fun r2 w1 H locs hw hP hD hS => ?_)
    obtain ⟨rfl, rfl⟩ := hw
    have hP : va_P D vwCl [(f0, .inr (8, [.ref a1, .ref c1, .ref r1, .ref y1, .ref k1, .ref j1, .int ibc, .int ilc, .int igl, .int ibk, .int ifa, .int ibd])), (c1, .inr (5, [.ref c2, .ref c3, .int vzc, .int vwc, .int vhc, .int vkc])), (c2, .inl (cI, 144, .inl pxc)), (c3, .inl (cI, 9, .inl mdc))] H := hP
    have hD : va_D A [(f0, .inr (8, [.ref a1, .ref c1, .ref r1, .ref y1, .ref k1, .ref j1, .int ibc, .int ilc, .int igl, .int ibk, .int ifa, .int ibd])), (c1, .inr (5, [.ref c2, .ref c3, .int vzc, .int vwc, .int vhc, .int vkc])), (c2, .inl (cI, 144, .inl pxc)), (c3, .inl (cI, 9, .inl mdc))] := hD
    refine lv_if_ne (tgt := 22) hx hb d_TileForge_apart_11 (by decide) (fun c_11 => ?_) (fun c_11 => ?_)
    · have c_11 := cs_b1 c_11
      refine lv_aload_n hx hb d_TileForge_apart_22 rfl (lv_at hl 0 rfl) ?_
      refine lv_iload_n hx hb d_TileForge_apart_23 rfl (lv_at hl 1 rfl) ?_
      refine cs_Vr (As := [.int 1]) (rest := []) (wr := [(c1, .inr (5, [.ref c2, .ref c3, .int vzc, .int vwc, .int vhc, .int vkc])), (c2, .inl (cI, 144, .inl pxc)), (c3, .inl (cI, 9, .inl mdc))]) ⟨hx, hb, hml, hown, hts⟩ (c_tf_choose1 l hcI f0 a1 c1 r1 y1 k1 j1 ibc ilc igl ibk ifa ibd) (cwV 1 hts (cs_gV mw_520 mw_521 mw_522 mw_139 mw_472) rfl rfl rfl ⟨rfl, hd_TileForge_choose⟩ ⟨Nat.le_of_ble_eq_true rfl, Nat.le_of_ble_eq_true rfl⟩) hN hK hP hD hS hA [0] [1, 2, 3] rfl rfl rfl rfl (by decide) (ci := 8) rfl rfl rfl rfl rfl hl.1 (Nat.le_of_ble_eq_true rfl) d_TileForge_apart_24 ⟨Nat.le_of_ble_eq_true rfl, Nat.le_of_ble_eq_true rfl⟩ (fun r3 w1 H locs hw hP hD hS => ?_)
      obtain ⟨hrr, rfl⟩ := hw
      have hrr := hrr.symm
      subst hrr
      have hP : va_P D vwCl [(c1, .inr (5, [.ref c2, .ref c3, .int vzc, .int vwc, .int vhc, .int vkc])), (c2, .inl (cI, 144, .inl pxc)), (c3, .inl (cI, 9, .inl mdc)), (f0, .inr (8, [.ref a1, .ref c1, .ref r1, .ref y1, .ref k1, .ref j1, .int ibc, .int ilc, .int igl, .int ibk, .int ifa, .int ibd]))] H := hP
      have hD : va_D A [(c1, .inr (5, [.ref c2, .ref c3, .int vzc, .int vwc, .int vhc, .int vkc])), (c2, .inl (cI, 144, .inl pxc)), (c3, .inl (cI, 9, .inl mdc)), (f0, .inr (8, [.ref a1, .ref c1, .ref r1, .ref y1, .ref k1, .ref j1, .int ibc, .int ilc, .int igl, .int ibk, .int ifa, .int ibd]))] := hD
      refine lv_astore_n (lv' := [(3, .ref c1), (0, .ref f0), (1, .int 1), (2, .int 1)]) hx hb d_TileForge_apart_27 rfl hl (by decide) rfl (fun ls hl => ?_)
      refine lv_aload_n hx hb d_TileForge_apart_28 rfl (lv_at hl 1 rfl) ?_
      refine lv_iload_n hx hb d_TileForge_apart_29 rfl (lv_at hl 3 rfl) ?_
      refine cs_Vr (As := [.int 1]) (rest := []) (wr := [(c1, .inr (5, [.ref c2, .ref c3, .int vzc, .int vwc, .int vhc, .int vkc])), (c2, .inl (cI, 144, .inl pxc)), (c3, .inl (cI, 9, .inl mdc))]) ⟨hx, hb, hml, hown, hts⟩ (c_tf_choose1 l hcI f0 a1 c1 r1 y1 k1 j1 ibc ilc igl ibk ifa ibd) (cwV 1 hts (cs_gV mw_520 mw_521 mw_522 mw_139 mw_472) rfl rfl rfl ⟨rfl, hd_TileForge_choose⟩ ⟨Nat.le_of_ble_eq_true rfl, Nat.le_of_ble_eq_true rfl⟩) hN hK hP hD hS hA [3] [0, 1, 2] rfl rfl rfl rfl (by decide) (ci := 8) rfl rfl rfl rfl rfl hl.1 (Nat.le_of_ble_eq_true rfl) d_TileForge_apart_30 ⟨Nat.le_of_ble_eq_true rfl, Nat.le_of_ble_eq_true rfl⟩ (fun r4 w1 H locs hw hP hD hS => ?_)
      obtain ⟨hrr, rfl⟩ := hw
      have hrr := hrr.symm
      subst hrr
      have hP : va_P D vwCl [(c1, .inr (5, [.ref c2, .ref c3, .int vzc, .int vwc, .int vhc, .int vkc])), (c2, .inl (cI, 144, .inl pxc)), (c3, .inl (cI, 9, .inl mdc)), (f0, .inr (8, [.ref a1, .ref c1, .ref r1, .ref y1, .ref k1, .ref j1, .int ibc, .int ilc, .int igl, .int ibk, .int ifa, .int ibd]))] H := hP
      have hD : va_D A [(c1, .inr (5, [.ref c2, .ref c3, .int vzc, .int vwc, .int vhc, .int vkc])), (c2, .inl (cI, 144, .inl pxc)), (c3, .inl (cI, 9, .inl mdc)), (f0, .inr (8, [.ref a1, .ref c1, .ref r1, .ref y1, .ref k1, .ref j1, .int ibc, .int ilc, .int igl, .int ibk, .int ifa, .int ibd]))] := hD
      refine lv_astore (lv' := [(4, .ref c1), (3, .ref c1), (0, .ref f0), (1, .int 1), (2, .int 1)]) hx hb d_TileForge_apart_33 hl (by decide) rfl (fun ls hl => ?_)
      refine lv_aload_n hx hb d_TileForge_apart_35 rfl (lv_at hl 1 rfl) ?_
      refine va_get (D := D) (ci := 5) (v := .int vzc) (C := "TileForge$Picture") (T := T_Picture) (N := 6) hx hb hts (cs_in in_Picture) hown hK hP 0 rfl rfl 2 (by decide) (hts _ (cs_m mw_523)) (fun _ h9 => h9) rfl d_TileForge_apart_36 ?_
      refine lv_if_eq (tgt := 50) hx hb d_TileForge_apart_39 (by decide) (fun c_39 => ?_) (fun c_39 => ?_)
      · have hP := hP.sub (ws' := [(f0, .inr (8, [.ref a1, .ref c1, .ref r1, .ref y1, .ref k1, .ref j1, .int ibc, .int ilc, .int igl, .int ibk, .int ifa, .int ibd])), (c1, .inr (5, [.ref c2, .ref c3, .int vzc, .int vwc, .int vhc, .int vkc])), (c2, .inl (cI, 144, .inl pxc)), (c3, .inl (cI, 9, .inl mdc))]) [3, 0, 1, 2] rfl
        have hD := hD.sub (ws' := [(f0, .inr (8, [.ref a1, .ref c1, .ref r1, .ref y1, .ref k1, .ref j1, .int ibc, .int ilc, .int igl, .int ibk, .int ifa, .int ibd])), (c1, .inr (5, [.ref c2, .ref c3, .int vzc, .int vwc, .int vhc, .int vkc])), (c2, .inl (cI, 144, .inl pxc)), (c3, .inl (cI, 9, .inl mdc))]) [3, 0, 1, 2] (by decide) rfl
        exact cx_thr (ix := 103) (ic := 105) (E := "java/lang/IllegalStateException") (post := (q_tf_apartC11 cI f0 a1 c1 r1 y1 k1 j1 ibc ilc igl ibk ifa ibd c2 c3 pxc mdc vzc vwc vhc vkc)) hx hb hst (hl.1.trans hml.symm) B.named hts hown hX hP0 hAe mw_576 mw_577 mw_578 oa_ISE fi_ISE hK hP hD hS hlocks (Nat.le_of_ble_eq_true rfl) (Nat.le_of_ble_eq_true rfl) (Nat.le_of_ble_eq_true rfl) (Nat.le_of_ble_eq_true rfl) (Nat.le_of_ble_eq_true rfl) (Nat.le_of_ble_eq_true rfl) d_TileForge_apart_50 d_TileForge_apart_53 d_TileForge_apart_54 d_TileForge_apart_57  (show _ = _ from rfl)
      · refine lv_aload hx hb d_TileForge_apart_42 (lv_at hl 0 rfl) ?_
        refine va_get (D := D) (ci := 5) (v := .int vzc) (C := "TileForge$Picture") (T := T_Picture) (N := 6) hx hb hts (cs_in in_Picture) hown hK hP 0 rfl rfl 2 (by decide) (hts _ (cs_m mw_523)) (fun _ h9 => h9) rfl d_TileForge_apart_44 ?_
        refine lv_if_ne (tgt := 58) hx hb d_TileForge_apart_47 (by decide) (fun c_47 => ?_) (fun c_47 => ?_)
        · exact absurd (⟨c_39, c_47⟩ : ¬ vzc = 0 ∧ ¬ vzc = 0) hbad
        · have hP := hP.sub (ws' := [(f0, .inr (8, [.ref a1, .ref c1, .ref r1, .ref y1, .ref k1, .ref j1, .int ibc, .int ilc, .int igl, .int ibk, .int ifa, .int ibd])), (c1, .inr (5, [.ref c2, .ref c3, .int vzc, .int vwc, .int vhc, .int vkc])), (c2, .inl (cI, 144, .inl pxc)), (c3, .inl (cI, 9, .inl mdc))]) [3, 0, 1, 2] rfl
          have hD := hD.sub (ws' := [(f0, .inr (8, [.ref a1, .ref c1, .ref r1, .ref y1, .ref k1, .ref j1, .int ibc, .int ilc, .int igl, .int ibk, .int ifa, .int ibd])), (c1, .inr (5, [.ref c2, .ref c3, .int vzc, .int vwc, .int vhc, .int vkc])), (c2, .inl (cI, 144, .inl pxc)), (c3, .inl (cI, 9, .inl mdc))]) [3, 0, 1, 2] (by decide) rfl
          exact cx_thr (ix := 103) (ic := 105) (E := "java/lang/IllegalStateException") (post := (q_tf_apartC11 cI f0 a1 c1 r1 y1 k1 j1 ibc ilc igl ibk ifa ibd c2 c3 pxc mdc vzc vwc vhc vkc)) hx hb hst (hl.1.trans hml.symm) B.named hts hown hX hP0 hAe mw_576 mw_577 mw_578 oa_ISE fi_ISE hK hP hD hS hlocks (Nat.le_of_ble_eq_true rfl) (Nat.le_of_ble_eq_true rfl) (Nat.le_of_ble_eq_true rfl) (Nat.le_of_ble_eq_true rfl) (Nat.le_of_ble_eq_true rfl) (Nat.le_of_ble_eq_true rfl) d_TileForge_apart_50 d_TileForge_apart_53 d_TileForge_apart_54 d_TileForge_apart_57  (show _ = _ from rfl)
    · have c_11 := cs_b0 c_11
      exact absurd (by decide) c_11
def q_tf_apartC12 (cI : ClassId) (f0 : Nat) (a1 : Nat) (c1 : Nat) (r1 : Nat) (y1 : Nat) (k1 : Nat) (j1 : Nat) (ibc : Int32) (ilc : Int32) (igl : Int32) (ibk : Int32) (ifa : Int32) (ibd : Int32) (c2 : Nat) (c3 : Nat) (pxc : Nat → Int32) (mdc : Nat → Int32) (vzc : Int32) (vwc : Int32) (vhc : Int32) (vkc : Int32) (r2 : Nat) (r3 : Nat) (pxr : Nat → Int32) (mdr : Nat → Int32) (vzr : Int32) (vwr : Int32) (vhr : Int32) (vkr : Int32) : va_W → Prop := fun ww => ww = [(f0, .inr (8, [.ref a1, .ref c1, .ref r1, .ref y1, .ref k1, .ref j1, .int ibc, .int ilc, .int igl, .int ibk, .int ifa, .int ibd])), (c1, .inr (5, [.ref c2, .ref c3, .int vzc, .int vwc, .int vhc, .int vkc])), (c2, .inl (cI, 144, .inl pxc)), (c3, .inl (cI, 9, .inl mdc)), (r1, .inr (5, [.ref r2, .ref r3, .int vzr, .int vwr, .int vhr, .int vkr])), (r2, .inl (cI, 144, .inl pxr)), (r3, .inl (cI, 9, .inl mdr))]
set_option maxHeartbeats 4000000 in
set_option maxRecDepth 100000 in
theorem c_tf_apartC12 (l : Launch) (hst : l.stackTraces = false) {D : va_G} {tys : List (ClassId × FieldType)} {cI : ClassId} (hcI : tys[0]? = some (cI, .int)) (f0 : Nat) (a1 : Nat) (c1 : Nat) (r1 : Nat) (y1 : Nat) (k1 : Nat) (j1 : Nat) (ibc : Int32) (ilc : Int32) (igl : Int32) (ibk : Int32) (ifa : Int32) (ibd : Int32) (c2 : Nat) (c3 : Nat) (pxc : Nat → Int32) (mdc : Nat → Int32) (vzc : Int32) (vwc : Int32) (vhc : Int32) (vkc : Int32) (r2 : Nat) (r3 : Nat) (pxr : Nat → Int32) (mdr : Nat → Int32) (vzr : Int32) (vwr : Int32) (vhr : Int32) (vkr : Int32) (hbad : ¬ (¬ vzc = 0 ∧ ¬ vzr = 0)) : CxE l D vwCl tys y_TileForge_apart ws_TileForge_apart ({ frames := 6, cells := 1, slots := 6, locals := 81 } : Room) [.ref f0, .int 1, .int 2] [(f0, .inr (8, [.ref a1, .ref c1, .ref r1, .ref y1, .ref k1, .ref j1, .int ibc, .int ilc, .int igl, .int ibk, .int ifa, .int ibd])), (c1, .inr (5, [.ref c2, .ref c3, .int vzc, .int vwc, .int vhc, .int vkc])), (c2, .inl (cI, 144, .inl pxc)), (c3, .inl (cI, 9, .inl mdc)), (r1, .inr (5, [.ref r2, .ref r3, .int vzr, .int vwr, .int vhr, .int vkr])), (r2, .inl (cI, 144, .inl pxr)), (r3, .inl (cI, 9, .inl mdr))] (q_tf_apartC12 cI f0 a1 c1 r1 y1 k1 j1 ibc ilc igl ibk ifa ibd c2 c3 pxc mdc vzc vwc vhc vkc r2 r3 pxr mdr vzr vwr vhr vkr) "java/lang/IllegalStateException" 1 6 := by
  intro sz
  refine cx_ofW (cc := prog_1_method_11_code) (maxL := 5) (ret := (some .double)) (by decide) rfl ?_
  intro p e s m args below meth c s₁ B hml hv
  obtain ⟨rfl, ⟨hsz, hP, hK, hD0, hN⟩, hX⟩ := hv
  have hx := B.exec
  have hb := B.bytes
  have hr := B.returns
  have hts := atoms_spec (ws := ws_TileForge_apart) B.pre
  have hown : s.vm.findClass "TileForge" = some m.cls := findClass_of_methodNamed B.named
  have hlocks := B.notSynchronized
  subst hsz
  have hD := hD0.self (sz := s.heap.size)
  generalize hAe : va_A [(f0, .inr (8, [.ref a1, .ref c1, .ref r1, .ref y1, .ref k1, .ref j1, .int ibc, .int ilc, .int igl, .int ibk, .int ifa, .int ibd])), (c1, .inr (5, [.ref c2, .ref c3, .int vzc, .int vwc, .int vhc, .int vkc])), (c2, .inl (cI, 144, .inl pxc)), (c3, .inl (cI, 9, .inl mdc)), (r1, .inr (5, [.ref r2, .ref r3, .int vzr, .int vwr, .int vhr, .int vkr])), (r2, .inl (cI, 144, .inl pxr)), (r3, .inl (cI, 9, .inl mdr))] s.heap.size = A at hD ⊢
  have hA : ∀ q : Nat, s.heap.size ≤ q → A q := fun q h => by rw [← hAe]; exact Or.inr h
  have hS : va_S A s.heap s.heap [] := va_S.rf
  have hP : va_P D vwCl [(f0, .inr (8, [.ref a1, .ref c1, .ref r1, .ref y1, .ref k1, .ref j1, .int ibc, .int ilc, .int igl, .int ibk, .int ifa, .int ibd])), (c1, .inr (5, [.ref c2, .ref c3, .int vzc, .int vwc, .int vhc, .int vkc])), (c2, .inl (cI, 144, .inl pxc)), (c3, .inl (cI, 9, .inl mdc)), (r1, .inr (5, [.ref r2, .ref r3, .int vzr, .int vwr, .int vhr, .int vkr])), (r2, .inl (cI, 144, .inl pxr)), (r3, .inl (cI, 9, .inl mdr))] s.heap := hP
  have hP0 := hP
  have hl := lv_entry ([.ref f0, .int 1, .int 2]) (n := 5) (Nat.le_of_ble_eq_true rfl)
  rw [lg_entry_eq]
  generalize (lg_sl ([.ref f0, .int 1, .int 2]) ++ List.replicate (5 - (lg_sl ([.ref f0, .int 1, .int 2])).length) Slot.unset).toArray = ls at hl ⊢
  have hl : lv_has ls 5 [(0, .ref f0), (1, .int 1), (2, .int 2)] := hl
  refine lv_iload_n hx hb d_TileForge_apart_0 rfl (lv_at hl 1 rfl) ?_
  refine cs_Si (As := [.int 1]) (rest := []) (wr := [(f0, .inr (8, [.ref a1, .ref c1, .ref r1, .ref y1, .ref k1, .ref j1, .int ibc, .int ilc, .int igl, .int ibk, .int ifa, .int ibd])), (c1, .inr (5, [.ref c2, .ref c3, .int vzc, .int vwc, .int vhc, .int vkc])), (c2, .inl (cI, 144, .inl pxc)), (c3, .inl (cI, 9, .inl mdc)), (r1, .inr (5, [.ref r2, .ref r3, .int vzr, .int vwr, .int vhr, .int vkr])), (r2, .inl (cI, 144, .inl pxr)), (r3, .inl (cI, 9, .inl mdr))]) ⟨hx, hb, hml, hown, hts⟩ (c_isChoice l hcI 1) (va_cwS 1 hts (cs_gS mw_518 mw_519 mw_139 mw_77) rfl rfl rfl hd_TileForge_isChoice ⟨Nat.le_of_ble_eq_true rfl, Nat.le_of_ble_eq_true rfl⟩) hN hK hP hD hS hA [] [0, 1, 2, 3, 4, 5, 6] rfl rfl rfl rfl (by decide) rfl rfl hl.1 (Nat.le_of_ble_eq_true rfl) d_TileForge_apart_1 ⟨Nat.le_of_ble_eq_true rfl, Nat.le_of_ble_eq_true rfl⟩ (fun r1 w1 H locs hw hP hD hS => ?_)
  obtain ⟨rfl, rfl⟩ := hw
  have hP : va_P D vwCl [(f0, .inr (8, [.ref a1, .ref c1, .ref r1, .ref y1, .ref k1, .ref j1, .int ibc, .int ilc, .int igl, .int ibk, .int ifa, .int ibd])), (c1, .inr (5, [.ref c2, .ref c3, .int vzc, .int vwc, .int vhc, .int vkc])), (c2, .inl (cI, 144, .inl pxc)), (c3, .inl (cI, 9, .inl mdc)), (r1, .inr (5, [.ref r2, .ref r3, .int vzr, .int vwr, .int vhr, .int vkr])), (r2, .inl (cI, 144, .inl pxr)), (r3, .inl (cI, 9, .inl mdr))] H := hP
  have hD : va_D A [(f0, .inr (8, [.ref a1, .ref c1, .ref r1, .ref y1, .ref k1, .ref j1, .int ibc, .int ilc, .int igl, .int ibk, .int ifa, .int ibd])), (c1, .inr (5, [.ref c2, .ref c3, .int vzc, .int vwc, .int vhc, .int vkc])), (c2, .inl (cI, 144, .inl pxc)), (c3, .inl (cI, 9, .inl mdc)), (r1, .inr (5, [.ref r2, .ref r3, .int vzr, .int vwr, .int vhr, .int vkr])), (r2, .inl (cI, 144, .inl pxr)), (r3, .inl (cI, 9, .inl mdr))] := hD
  refine lv_if_eq (tgt := 14) hx hb d_TileForge_apart_4 (by decide) (fun c_4 => ?_) (fun c_4 => ?_)
  · have c_4 := cs_b0 c_4
    exact absurd (by decide) c_4
  · have c_4 := cs_b1 c_4
    refine lv_iload_n hx hb d_TileForge_apart_7 rfl (lv_at hl 2 rfl) ?_
    refine cs_Si (As := [.int 2]) (rest := []) (wr := [(f0, .inr (8, [.ref a1, .ref c1, .ref r1, .ref y1, .ref k1, .ref j1, .int ibc, .int ilc, .int igl, .int ibk, .int ifa, .int ibd])), (c1, .inr (5, [.ref c2, .ref c3, .int vzc, .int vwc, .int vhc, .int vkc])), (c2, .inl (cI, 144, .inl pxc)), (c3, .inl (cI, 9, .inl mdc)), (r1, .inr (5, [.ref r2, .ref r3, .int vzr, .int vwr, .int vhr, .int vkr])), (r2, .inl (cI, 144, .inl pxr)), (r3, .inl (cI, 9, .inl mdr))]) ⟨hx, hb, hml, hown, hts⟩ (c_isChoice l hcI 2) (va_cwS 1 hts (cs_gS mw_518 mw_519 mw_139 mw_77) rfl rfl rfl hd_TileForge_isChoice ⟨Nat.le_of_ble_eq_true rfl, Nat.le_of_ble_eq_true rfl⟩) hN hK hP hD hS hA [] [0, 1, 2, 3, 4, 5, 6] rfl rfl rfl rfl (by decide) rfl rfl hl.1 (Nat.le_of_ble_eq_true rfl) d_TileForge_apart_8 ⟨Nat.le_of_ble_eq_true rfl, Nat.le_of_ble_eq_true rfl⟩ (fun r2 w1 H locs hw hP hD hS => ?_)
    obtain ⟨rfl, rfl⟩ := hw
    have hP : va_P D vwCl [(f0, .inr (8, [.ref a1, .ref c1, .ref r1, .ref y1, .ref k1, .ref j1, .int ibc, .int ilc, .int igl, .int ibk, .int ifa, .int ibd])), (c1, .inr (5, [.ref c2, .ref c3, .int vzc, .int vwc, .int vhc, .int vkc])), (c2, .inl (cI, 144, .inl pxc)), (c3, .inl (cI, 9, .inl mdc)), (r1, .inr (5, [.ref r2, .ref r3, .int vzr, .int vwr, .int vhr, .int vkr])), (r2, .inl (cI, 144, .inl pxr)), (r3, .inl (cI, 9, .inl mdr))] H := hP
    have hD : va_D A [(f0, .inr (8, [.ref a1, .ref c1, .ref r1, .ref y1, .ref k1, .ref j1, .int ibc, .int ilc, .int igl, .int ibk, .int ifa, .int ibd])), (c1, .inr (5, [.ref c2, .ref c3, .int vzc, .int vwc, .int vhc, .int vkc])), (c2, .inl (cI, 144, .inl pxc)), (c3, .inl (cI, 9, .inl mdc)), (r1, .inr (5, [.ref r2, .ref r3, .int vzr, .int vwr, .int vhr, .int vkr])), (r2, .inl (cI, 144, .inl pxr)), (r3, .inl (cI, 9, .inl mdr))] := hD
    refine lv_if_ne (tgt := 22) hx hb d_TileForge_apart_11 (by decide) (fun c_11 => ?_) (fun c_11 => ?_)
    · have c_11 := cs_b1 c_11
      refine lv_aload_n hx hb d_TileForge_apart_22 rfl (lv_at hl 0 rfl) ?_
      refine lv_iload_n hx hb d_TileForge_apart_23 rfl (lv_at hl 1 rfl) ?_
      refine cs_Vr (As := [.int 1]) (rest := []) (wr := [(c1, .inr (5, [.ref c2, .ref c3, .int vzc, .int vwc, .int vhc, .int vkc])), (c2, .inl (cI, 144, .inl pxc)), (c3, .inl (cI, 9, .inl mdc)), (r1, .inr (5, [.ref r2, .ref r3, .int vzr, .int vwr, .int vhr, .int vkr])), (r2, .inl (cI, 144, .inl pxr)), (r3, .inl (cI, 9, .inl mdr))]) ⟨hx, hb, hml, hown, hts⟩ (c_tf_choose1 l hcI f0 a1 c1 r1 y1 k1 j1 ibc ilc igl ibk ifa ibd) (cwV 1 hts (cs_gV mw_520 mw_521 mw_522 mw_139 mw_472) rfl rfl rfl ⟨rfl, hd_TileForge_choose⟩ ⟨Nat.le_of_ble_eq_true rfl, Nat.le_of_ble_eq_true rfl⟩) hN hK hP hD hS hA [0] [1, 2, 3, 4, 5, 6] rfl rfl rfl rfl (by decide) (ci := 8) rfl rfl rfl rfl rfl hl.1 (Nat.le_of_ble_eq_true rfl) d_TileForge_apart_24 ⟨Nat.le_of_ble_eq_true rfl, Nat.le_of_ble_eq_true rfl⟩ (fun r3 w1 H locs hw hP hD hS => ?_)
      obtain ⟨hrr, rfl⟩ := hw
      have hrr := hrr.symm
      subst hrr
      have hP : va_P D vwCl [(c1, .inr (5, [.ref c2, .ref c3, .int vzc, .int vwc, .int vhc, .int vkc])), (c2, .inl (cI, 144, .inl pxc)), (c3, .inl (cI, 9, .inl mdc)), (r1, .inr (5, [.ref r2, .ref r3, .int vzr, .int vwr, .int vhr, .int vkr])), (r2, .inl (cI, 144, .inl pxr)), (r3, .inl (cI, 9, .inl mdr)), (f0, .inr (8, [.ref a1, .ref c1, .ref r1, .ref y1, .ref k1, .ref j1, .int ibc, .int ilc, .int igl, .int ibk, .int ifa, .int ibd]))] H := hP
      have hD : va_D A [(c1, .inr (5, [.ref c2, .ref c3, .int vzc, .int vwc, .int vhc, .int vkc])), (c2, .inl (cI, 144, .inl pxc)), (c3, .inl (cI, 9, .inl mdc)), (r1, .inr (5, [.ref r2, .ref r3, .int vzr, .int vwr, .int vhr, .int vkr])), (r2, .inl (cI, 144, .inl pxr)), (r3, .inl (cI, 9, .inl mdr)), (f0, .inr (8, [.ref a1, .ref c1, .ref r1, .ref y1, .ref k1, .ref j1, .int ibc, .int ilc, .int igl, .int ibk, .int ifa, .int ibd]))] := hD
      refine lv_astore_n (lv' := [(3, .ref c1), (0, .ref f0), (1, .int 1), (2, .int 2)]) hx hb d_TileForge_apart_27 rfl hl (by decide) rfl (fun ls hl => ?_)
      refine lv_aload_n hx hb d_TileForge_apart_28 rfl (lv_at hl 1 rfl) ?_
      refine lv_iload_n hx hb d_TileForge_apart_29 rfl (lv_at hl 3 rfl) ?_
      refine cs_Vr (As := [.int 2]) (rest := []) (wr := [(c1, .inr (5, [.ref c2, .ref c3, .int vzc, .int vwc, .int vhc, .int vkc])), (c2, .inl (cI, 144, .inl pxc)), (c3, .inl (cI, 9, .inl mdc)), (r1, .inr (5, [.ref r2, .ref r3, .int vzr, .int vwr, .int vhr, .int vkr])), (r2, .inl (cI, 144, .inl pxr)), (r3, .inl (cI, 9, .inl mdr))]) ⟨hx, hb, hml, hown, hts⟩ (c_tf_choose2 l hcI f0 a1 c1 r1 y1 k1 j1 ibc ilc igl ibk ifa ibd) (cwV 1 hts (cs_gV mw_520 mw_521 mw_522 mw_139 mw_472) rfl rfl rfl ⟨rfl, hd_TileForge_choose⟩ ⟨Nat.le_of_ble_eq_true rfl, Nat.le_of_ble_eq_true rfl⟩) hN hK hP hD hS hA [6] [0, 1, 2, 3, 4, 5] rfl rfl rfl rfl (by decide) (ci := 8) rfl rfl rfl rfl rfl hl.1 (Nat.le_of_ble_eq_true rfl) d_TileForge_apart_30 ⟨Nat.le_of_ble_eq_true rfl, Nat.le_of_ble_eq_true rfl⟩ (fun r4 w1 H locs hw hP hD hS => ?_)
      obtain ⟨hrr, rfl⟩ := hw
      have hrr := hrr.symm
      subst hrr
      have hP : va_P D vwCl [(c1, .inr (5, [.ref c2, .ref c3, .int vzc, .int vwc, .int vhc, .int vkc])), (c2, .inl (cI, 144, .inl pxc)), (c3, .inl (cI, 9, .inl mdc)), (r1, .inr (5, [.ref r2, .ref r3, .int vzr, .int vwr, .int vhr, .int vkr])), (r2, .inl (cI, 144, .inl pxr)), (r3, .inl (cI, 9, .inl mdr)), (f0, .inr (8, [.ref a1, .ref c1, .ref r1, .ref y1, .ref k1, .ref j1, .int ibc, .int ilc, .int igl, .int ibk, .int ifa, .int ibd]))] H := hP
      have hD : va_D A [(c1, .inr (5, [.ref c2, .ref c3, .int vzc, .int vwc, .int vhc, .int vkc])), (c2, .inl (cI, 144, .inl pxc)), (c3, .inl (cI, 9, .inl mdc)), (r1, .inr (5, [.ref r2, .ref r3, .int vzr, .int vwr, .int vhr, .int vkr])), (r2, .inl (cI, 144, .inl pxr)), (r3, .inl (cI, 9, .inl mdr)), (f0, .inr (8, [.ref a1, .ref c1, .ref r1, .ref y1, .ref k1, .ref j1, .int ibc, .int ilc, .int igl, .int ibk, .int ifa, .int ibd]))] := hD
      refine lv_astore (lv' := [(4, .ref r1), (3, .ref c1), (0, .ref f0), (1, .int 1), (2, .int 2)]) hx hb d_TileForge_apart_33 hl (by decide) rfl (fun ls hl => ?_)
      refine lv_aload_n hx hb d_TileForge_apart_35 rfl (lv_at hl 1 rfl) ?_
      refine va_get (D := D) (ci := 5) (v := .int vzc) (C := "TileForge$Picture") (T := T_Picture) (N := 6) hx hb hts (cs_in in_Picture) hown hK hP 0 rfl rfl 2 (by decide) (hts _ (cs_m mw_523)) (fun _ h9 => h9) rfl d_TileForge_apart_36 ?_
      refine lv_if_eq (tgt := 50) hx hb d_TileForge_apart_39 (by decide) (fun c_39 => ?_) (fun c_39 => ?_)
      · have hP := hP.sub (ws' := [(f0, .inr (8, [.ref a1, .ref c1, .ref r1, .ref y1, .ref k1, .ref j1, .int ibc, .int ilc, .int igl, .int ibk, .int ifa, .int ibd])), (c1, .inr (5, [.ref c2, .ref c3, .int vzc, .int vwc, .int vhc, .int vkc])), (c2, .inl (cI, 144, .inl pxc)), (c3, .inl (cI, 9, .inl mdc)), (r1, .inr (5, [.ref r2, .ref r3, .int vzr, .int vwr, .int vhr, .int vkr])), (r2, .inl (cI, 144, .inl pxr)), (r3, .inl (cI, 9, .inl mdr))]) [6, 0, 1, 2, 3, 4, 5] rfl
        have hD := hD.sub (ws' := [(f0, .inr (8, [.ref a1, .ref c1, .ref r1, .ref y1, .ref k1, .ref j1, .int ibc, .int ilc, .int igl, .int ibk, .int ifa, .int ibd])), (c1, .inr (5, [.ref c2, .ref c3, .int vzc, .int vwc, .int vhc, .int vkc])), (c2, .inl (cI, 144, .inl pxc)), (c3, .inl (cI, 9, .inl mdc)), (r1, .inr (5, [.ref r2, .ref r3, .int vzr, .int vwr, .int vhr, .int vkr])), (r2, .inl (cI, 144, .inl pxr)), (r3, .inl (cI, 9, .inl mdr))]) [6, 0, 1, 2, 3, 4, 5] (by decide) rfl
        exact cx_thr (ix := 103) (ic := 105) (E := "java/lang/IllegalStateException") (post := (q_tf_apartC12 cI f0 a1 c1 r1 y1 k1 j1 ibc ilc igl ibk ifa ibd c2 c3 pxc mdc vzc vwc vhc vkc r2 r3 pxr mdr vzr vwr vhr vkr)) hx hb hst (hl.1.trans hml.symm) B.named hts hown hX hP0 hAe mw_576 mw_577 mw_578 oa_ISE fi_ISE hK hP hD hS hlocks (Nat.le_of_ble_eq_true rfl) (Nat.le_of_ble_eq_true rfl) (Nat.le_of_ble_eq_true rfl) (Nat.le_of_ble_eq_true rfl) (Nat.le_of_ble_eq_true rfl) (Nat.le_of_ble_eq_true rfl) d_TileForge_apart_50 d_TileForge_apart_53 d_TileForge_apart_54 d_TileForge_apart_57  (show _ = _ from rfl)
      · refine lv_aload hx hb d_TileForge_apart_42 (lv_at hl 0 rfl) ?_
        refine va_get (D := D) (ci := 5) (v := .int vzr) (C := "TileForge$Picture") (T := T_Picture) (N := 6) hx hb hts (cs_in in_Picture) hown hK hP 3 rfl rfl 2 (by decide) (hts _ (cs_m mw_523)) (fun _ h9 => h9) rfl d_TileForge_apart_44 ?_
        refine lv_if_ne (tgt := 58) hx hb d_TileForge_apart_47 (by decide) (fun c_47 => ?_) (fun c_47 => ?_)
        · exact absurd (⟨c_39, c_47⟩ : ¬ vzc = 0 ∧ ¬ vzr = 0) hbad
        · have hP := hP.sub (ws' := [(f0, .inr (8, [.ref a1, .ref c1, .ref r1, .ref y1, .ref k1, .ref j1, .int ibc, .int ilc, .int igl, .int ibk, .int ifa, .int ibd])), (c1, .inr (5, [.ref c2, .ref c3, .int vzc, .int vwc, .int vhc, .int vkc])), (c2, .inl (cI, 144, .inl pxc)), (c3, .inl (cI, 9, .inl mdc)), (r1, .inr (5, [.ref r2, .ref r3, .int vzr, .int vwr, .int vhr, .int vkr])), (r2, .inl (cI, 144, .inl pxr)), (r3, .inl (cI, 9, .inl mdr))]) [6, 0, 1, 2, 3, 4, 5] rfl
          have hD := hD.sub (ws' := [(f0, .inr (8, [.ref a1, .ref c1, .ref r1, .ref y1, .ref k1, .ref j1, .int ibc, .int ilc, .int igl, .int ibk, .int ifa, .int ibd])), (c1, .inr (5, [.ref c2, .ref c3, .int vzc, .int vwc, .int vhc, .int vkc])), (c2, .inl (cI, 144, .inl pxc)), (c3, .inl (cI, 9, .inl mdc)), (r1, .inr (5, [.ref r2, .ref r3, .int vzr, .int vwr, .int vhr, .int vkr])), (r2, .inl (cI, 144, .inl pxr)), (r3, .inl (cI, 9, .inl mdr))]) [6, 0, 1, 2, 3, 4, 5] (by decide) rfl
          exact cx_thr (ix := 103) (ic := 105) (E := "java/lang/IllegalStateException") (post := (q_tf_apartC12 cI f0 a1 c1 r1 y1 k1 j1 ibc ilc igl ibk ifa ibd c2 c3 pxc mdc vzc vwc vhc vkc r2 r3 pxr mdr vzr vwr vhr vkr)) hx hb hst (hl.1.trans hml.symm) B.named hts hown hX hP0 hAe mw_576 mw_577 mw_578 oa_ISE fi_ISE hK hP hD hS hlocks (Nat.le_of_ble_eq_true rfl) (Nat.le_of_ble_eq_true rfl) (Nat.le_of_ble_eq_true rfl) (Nat.le_of_ble_eq_true rfl) (Nat.le_of_ble_eq_true rfl) (Nat.le_of_ble_eq_true rfl) d_TileForge_apart_50 d_TileForge_apart_53 d_TileForge_apart_54 d_TileForge_apart_57  (show _ = _ from rfl)
    · have c_11 := cs_b0 c_11
      exact absurd (by decide) c_11
def q_tf_apartD12 (cI : ClassId) (f0 : Nat) (a1 : Nat) (c1 : Nat) (r1 : Nat) (y1 : Nat) (k1 : Nat) (j1 : Nat) (ibc : Int32) (ilc : Int32) (igl : Int32) (ibk : Int32) (ifa : Int32) (ibd : Int32) (c2 : Nat) (c3 : Nat) (pxc : Nat → Int32) (mdc : Nat → Int32) (vzc : Int32) (vwc : Int32) (vhc : Int32) (vkc : Int32) (r2 : Nat) (r3 : Nat) (pxr : Nat → Int32) (mdr : Nat → Int32) (vzr : Int32) (vwr : Int32) (vhr : Int32) (vkr : Int32) : va_W → Prop := fun ww => ww = [(f0, .inr (8, [.ref a1, .ref c1, .ref r1, .ref y1, .ref k1, .ref j1, .int ibc, .int ilc, .int igl, .int ibk, .int ifa, .int ibd])), (c1, .inr (5, [.ref c2, .ref c3, .int vzc, .int vwc, .int vhc, .int vkc])), (c2, .inl (cI, 144, .inl pxc)), (c3, .inl (cI, 9, .inl mdc)), (r1, .inr (5, [.ref r2, .ref r3, .int vzr, .int vwr, .int vhr, .int vkr])), (r2, .inl (cI, 144, .inl pxr)), (r3, .inl (cI, 9, .inl mdr))]
set_option maxHeartbeats 4000000 in
set_option maxRecDepth 100000 in
theorem c_tf_apartD12 (l : Launch) (hst : l.stackTraces = false) {D : va_G} {tys : List (ClassId × FieldType)} {cI : ClassId} (hcI : tys[0]? = some (cI, .int)) (f0 : Nat) (a1 : Nat) (c1 : Nat) (r1 : Nat) (y1 : Nat) (k1 : Nat) (j1 : Nat) (ibc : Int32) (ilc : Int32) (igl : Int32) (ibk : Int32) (ifa : Int32) (ibd : Int32) (c2 : Nat) (c3 : Nat) (pxc : Nat → Int32) (mdc : Nat → Int32) (vzc : Int32) (vwc : Int32) (vhc : Int32) (vkc : Int32) (r2 : Nat) (r3 : Nat) (pxr : Nat → Int32) (mdr : Nat → Int32) (vzr : Int32) (vwr : Int32) (vhr : Int32) (vkr : Int32) (hm1 : ¬ vzc = 0) (hm2 : ¬ vzr = 0) (hbad : ¬ (vwc = vwr ∧ vhc = vhr)) : CxE l D vwCl tys y_TileForge_apart ws_TileForge_apart ({ frames := 6, cells := 1, slots := 6, locals := 81 } : Room) [.ref f0, .int 1, .int 2] [(f0, .inr (8, [.ref a1, .ref c1, .ref r1, .ref y1, .ref k1, .ref j1, .int ibc, .int ilc, .int igl, .int ibk, .int ifa, .int ibd])), (c1, .inr (5, [.ref c2, .ref c3, .int vzc, .int vwc, .int vhc, .int vkc])), (c2, .inl (cI, 144, .inl pxc)), (c3, .inl (cI, 9, .inl mdc)), (r1, .inr (5, [.ref r2, .ref r3, .int vzr, .int vwr, .int vhr, .int vkr])), (r2, .inl (cI, 144, .inl pxr)), (r3, .inl (cI, 9, .inl mdr))] (q_tf_apartD12 cI f0 a1 c1 r1 y1 k1 j1 ibc ilc igl ibk ifa ibd c2 c3 pxc mdc vzc vwc vhc vkc r2 r3 pxr mdr vzr vwr vhr vkr) "java/lang/UnsupportedOperationException" 1 6 := by
  intro sz
  refine cx_ofW (cc := prog_1_method_11_code) (maxL := 5) (ret := (some .double)) (by decide) rfl ?_
  intro p e s m args below meth c s₁ B hml hv
  obtain ⟨rfl, ⟨hsz, hP, hK, hD0, hN⟩, hX⟩ := hv
  have hx := B.exec
  have hb := B.bytes
  have hr := B.returns
  have hts := atoms_spec (ws := ws_TileForge_apart) B.pre
  have hown : s.vm.findClass "TileForge" = some m.cls := findClass_of_methodNamed B.named
  have hlocks := B.notSynchronized
  subst hsz
  have hD := hD0.self (sz := s.heap.size)
  generalize hAe : va_A [(f0, .inr (8, [.ref a1, .ref c1, .ref r1, .ref y1, .ref k1, .ref j1, .int ibc, .int ilc, .int igl, .int ibk, .int ifa, .int ibd])), (c1, .inr (5, [.ref c2, .ref c3, .int vzc, .int vwc, .int vhc, .int vkc])), (c2, .inl (cI, 144, .inl pxc)), (c3, .inl (cI, 9, .inl mdc)), (r1, .inr (5, [.ref r2, .ref r3, .int vzr, .int vwr, .int vhr, .int vkr])), (r2, .inl (cI, 144, .inl pxr)), (r3, .inl (cI, 9, .inl mdr))] s.heap.size = A at hD ⊢
  have hA : ∀ q : Nat, s.heap.size ≤ q → A q := fun q h => by rw [← hAe]; exact Or.inr h
  have hS : va_S A s.heap s.heap [] := va_S.rf
  have hP : va_P D vwCl [(f0, .inr (8, [.ref a1, .ref c1, .ref r1, .ref y1, .ref k1, .ref j1, .int ibc, .int ilc, .int igl, .int ibk, .int ifa, .int ibd])), (c1, .inr (5, [.ref c2, .ref c3, .int vzc, .int vwc, .int vhc, .int vkc])), (c2, .inl (cI, 144, .inl pxc)), (c3, .inl (cI, 9, .inl mdc)), (r1, .inr (5, [.ref r2, .ref r3, .int vzr, .int vwr, .int vhr, .int vkr])), (r2, .inl (cI, 144, .inl pxr)), (r3, .inl (cI, 9, .inl mdr))] s.heap := hP
  have hP0 := hP
  have hl := lv_entry ([.ref f0, .int 1, .int 2]) (n := 5) (Nat.le_of_ble_eq_true rfl)
  rw [lg_entry_eq]
  generalize (lg_sl ([.ref f0, .int 1, .int 2]) ++ List.replicate (5 - (lg_sl ([.ref f0, .int 1, .int 2])).length) Slot.unset).toArray = ls at hl ⊢
  have hl : lv_has ls 5 [(0, .ref f0), (1, .int 1), (2, .int 2)] := hl
  refine lv_iload_n hx hb d_TileForge_apart_0 rfl (lv_at hl 1 rfl) ?_
  refine cs_Si (As := [.int 1]) (rest := []) (wr := [(f0, .inr (8, [.ref a1, .ref c1, .ref r1, .ref y1, .ref k1, .ref j1, .int ibc, .int ilc, .int igl, .int ibk, .int ifa, .int ibd])), (c1, .inr (5, [.ref c2, .ref c3, .int vzc, .int vwc, .int vhc, .int vkc])), (c2, .inl (cI, 144, .inl pxc)), (c3, .inl (cI, 9, .inl mdc)), (r1, .inr (5, [.ref r2, .ref r3, .int vzr, .int vwr, .int vhr, .int vkr])), (r2, .inl (cI, 144, .inl pxr)), (r3, .inl (cI, 9, .inl mdr))]) ⟨hx, hb, hml, hown, hts⟩ (c_isChoice l hcI 1) (va_cwS 1 hts (cs_gS mw_518 mw_519 mw_139 mw_77) rfl rfl rfl hd_TileForge_isChoice ⟨Nat.le_of_ble_eq_true rfl, Nat.le_of_ble_eq_true rfl⟩) hN hK hP hD hS hA [] [0, 1, 2, 3, 4, 5, 6] rfl rfl rfl rfl (by decide) rfl rfl hl.1 (Nat.le_of_ble_eq_true rfl) d_TileForge_apart_1 ⟨Nat.le_of_ble_eq_true rfl, Nat.le_of_ble_eq_true rfl⟩ (fun r1 w1 H locs hw hP hD hS => ?_)
  obtain ⟨rfl, rfl⟩ := hw
  have hP : va_P D vwCl [(f0, .inr (8, [.ref a1, .ref c1, .ref r1, .ref y1, .ref k1, .ref j1, .int ibc, .int ilc, .int igl, .int ibk, .int ifa, .int ibd])), (c1, .inr (5, [.ref c2, .ref c3, .int vzc, .int vwc, .int vhc, .int vkc])), (c2, .inl (cI, 144, .inl pxc)), (c3, .inl (cI, 9, .inl mdc)), (r1, .inr (5, [.ref r2, .ref r3, .int vzr, .int vwr, .int vhr, .int vkr])), (r2, .inl (cI, 144, .inl pxr)), (r3, .inl (cI, 9, .inl mdr))] H := hP
  have hD : va_D A [(f0, .inr (8, [.ref a1, .ref c1, .ref r1, .ref y1, .ref k1, .ref j1, .int ibc, .int ilc, .int igl, .int ibk, .int ifa, .int ibd])), (c1, .inr (5, [.ref c2, .ref c3, .int vzc, .int vwc, .int vhc, .int vkc])), (c2, .inl (cI, 144, .inl pxc)), (c3, .inl (cI, 9, .inl mdc)), (r1, .inr (5, [.ref r2, .ref r3, .int vzr, .int vwr, .int vhr, .int vkr])), (r2, .inl (cI, 144, .inl pxr)), (r3, .inl (cI, 9, .inl mdr))] := hD
  refine lv_if_eq (tgt := 14) hx hb d_TileForge_apart_4 (by decide) (fun c_4 => ?_) (fun c_4 => ?_)
  · have c_4 := cs_b0 c_4
    exact absurd (by decide) c_4
  · have c_4 := cs_b1 c_4
    refine lv_iload_n hx hb d_TileForge_apart_7 rfl (lv_at hl 2 rfl) ?_
    refine cs_Si (As := [.int 2]) (rest := []) (wr := [(f0, .inr (8, [.ref a1, .ref c1, .ref r1, .ref y1, .ref k1, .ref j1, .int ibc, .int ilc, .int igl, .int ibk, .int ifa, .int ibd])), (c1, .inr (5, [.ref c2, .ref c3, .int vzc, .int vwc, .int vhc, .int vkc])), (c2, .inl (cI, 144, .inl pxc)), (c3, .inl (cI, 9, .inl mdc)), (r1, .inr (5, [.ref r2, .ref r3, .int vzr, .int vwr, .int vhr, .int vkr])), (r2, .inl (cI, 144, .inl pxr)), (r3, .inl (cI, 9, .inl mdr))]) ⟨hx, hb, hml, hown, hts⟩ (c_isChoice l hcI 2) (va_cwS 1 hts (cs_gS mw_518 mw_519 mw_139 mw_77) rfl rfl rfl hd_TileForge_isChoice ⟨Nat.le_of_ble_eq_true rfl, Nat.le_of_ble_eq_true rfl⟩) hN hK hP hD hS hA [] [0, 1, 2, 3, 4, 5, 6] rfl rfl rfl rfl (by decide) rfl rfl hl.1 (Nat.le_of_ble_eq_true rfl) d_TileForge_apart_8 ⟨Nat.le_of_ble_eq_true rfl, Nat.le_of_ble_eq_true rfl⟩ (fun r2 w1 H locs hw hP hD hS => ?_)
    obtain ⟨rfl, rfl⟩ := hw
    have hP : va_P D vwCl [(f0, .inr (8, [.ref a1, .ref c1, .ref r1, .ref y1, .ref k1, .ref j1, .int ibc, .int ilc, .int igl, .int ibk, .int ifa, .int ibd])), (c1, .inr (5, [.ref c2, .ref c3, .int vzc, .int vwc, .int vhc, .int vkc])), (c2, .inl (cI, 144, .inl pxc)), (c3, .inl (cI, 9, .inl mdc)), (r1, .inr (5, [.ref r2, .ref r3, .int vzr, .int vwr, .int vhr, .int vkr])), (r2, .inl (cI, 144, .inl pxr)), (r3, .inl (cI, 9, .inl mdr))] H := hP
    have hD : va_D A [(f0, .inr (8, [.ref a1, .ref c1, .ref r1, .ref y1, .ref k1, .ref j1, .int ibc, .int ilc, .int igl, .int ibk, .int ifa, .int ibd])), (c1, .inr (5, [.ref c2, .ref c3, .int vzc, .int vwc, .int vhc, .int vkc])), (c2, .inl (cI, 144, .inl pxc)), (c3, .inl (cI, 9, .inl mdc)), (r1, .inr (5, [.ref r2, .ref r3, .int vzr, .int vwr, .int vhr, .int vkr])), (r2, .inl (cI, 144, .inl pxr)), (r3, .inl (cI, 9, .inl mdr))] := hD
    refine lv_if_ne (tgt := 22) hx hb d_TileForge_apart_11 (by decide) (fun c_11 => ?_) (fun c_11 => ?_)
    · have c_11 := cs_b1 c_11
      refine lv_aload_n hx hb d_TileForge_apart_22 rfl (lv_at hl 0 rfl) ?_
      refine lv_iload_n hx hb d_TileForge_apart_23 rfl (lv_at hl 1 rfl) ?_
      refine cs_Vr (As := [.int 1]) (rest := []) (wr := [(c1, .inr (5, [.ref c2, .ref c3, .int vzc, .int vwc, .int vhc, .int vkc])), (c2, .inl (cI, 144, .inl pxc)), (c3, .inl (cI, 9, .inl mdc)), (r1, .inr (5, [.ref r2, .ref r3, .int vzr, .int vwr, .int vhr, .int vkr])), (r2, .inl (cI, 144, .inl pxr)), (r3, .inl (cI, 9, .inl mdr))]) ⟨hx, hb, hml, hown, hts⟩ (c_tf_choose1 l hcI f0 a1 c1 r1 y1 k1 j1 ibc ilc igl ibk ifa ibd) (cwV 1 hts (cs_gV mw_520 mw_521 mw_522 mw_139 mw_472) rfl rfl rfl ⟨rfl, hd_TileForge_choose⟩ ⟨Nat.le_of_ble_eq_true rfl, Nat.le_of_ble_eq_true rfl⟩) hN hK hP hD hS hA [0] [1, 2, 3, 4, 5, 6] rfl rfl rfl rfl (by decide) (ci := 8) rfl rfl rfl rfl rfl hl.1 (Nat.le_of_ble_eq_true rfl) d_TileForge_apart_24 ⟨Nat.le_of_ble_eq_true rfl, Nat.le_of_ble_eq_true rfl⟩ (fun r3 w1 H locs hw hP hD hS => ?_)
      obtain ⟨hrr, rfl⟩ := hw
      have hrr := hrr.symm
      subst hrr
      have hP : va_P D vwCl [(c1, .inr (5, [.ref c2, .ref c3, .int vzc, .int vwc, .int vhc, .int vkc])), (c2, .inl (cI, 144, .inl pxc)), (c3, .inl (cI, 9, .inl mdc)), (r1, .inr (5, [.ref r2, .ref r3, .int vzr, .int vwr, .int vhr, .int vkr])), (r2, .inl (cI, 144, .inl pxr)), (r3, .inl (cI, 9, .inl mdr)), (f0, .inr (8, [.ref a1, .ref c1, .ref r1, .ref y1, .ref k1, .ref j1, .int ibc, .int ilc, .int igl, .int ibk, .int ifa, .int ibd]))] H := hP
      have hD : va_D A [(c1, .inr (5, [.ref c2, .ref c3, .int vzc, .int vwc, .int vhc, .int vkc])), (c2, .inl (cI, 144, .inl pxc)), (c3, .inl (cI, 9, .inl mdc)), (r1, .inr (5, [.ref r2, .ref r3, .int vzr, .int vwr, .int vhr, .int vkr])), (r2, .inl (cI, 144, .inl pxr)), (r3, .inl (cI, 9, .inl mdr)), (f0, .inr (8, [.ref a1, .ref c1, .ref r1, .ref y1, .ref k1, .ref j1, .int ibc, .int ilc, .int igl, .int ibk, .int ifa, .int ibd]))] := hD
      refine lv_astore_n (lv' := [(3, .ref c1), (0, .ref f0), (1, .int 1), (2, .int 2)]) hx hb d_TileForge_apart_27 rfl hl (by decide) rfl (fun ls hl => ?_)
      refine lv_aload_n hx hb d_TileForge_apart_28 rfl (lv_at hl 1 rfl) ?_
      refine lv_iload_n hx hb d_TileForge_apart_29 rfl (lv_at hl 3 rfl) ?_
      refine cs_Vr (As := [.int 2]) (rest := []) (wr := [(c1, .inr (5, [.ref c2, .ref c3, .int vzc, .int vwc, .int vhc, .int vkc])), (c2, .inl (cI, 144, .inl pxc)), (c3, .inl (cI, 9, .inl mdc)), (r1, .inr (5, [.ref r2, .ref r3, .int vzr, .int vwr, .int vhr, .int vkr])), (r2, .inl (cI, 144, .inl pxr)), (r3, .inl (cI, 9, .inl mdr))]) ⟨hx, hb, hml, hown, hts⟩ (c_tf_choose2 l hcI f0 a1 c1 r1 y1 k1 j1 ibc ilc igl ibk ifa ibd) (cwV 1 hts (cs_gV mw_520 mw_521 mw_522 mw_139 mw_472) rfl rfl rfl ⟨rfl, hd_TileForge_choose⟩ ⟨Nat.le_of_ble_eq_true rfl, Nat.le_of_ble_eq_true rfl⟩) hN hK hP hD hS hA [6] [0, 1, 2, 3, 4, 5] rfl rfl rfl rfl (by decide) (ci := 8) rfl rfl rfl rfl rfl hl.1 (Nat.le_of_ble_eq_true rfl) d_TileForge_apart_30 ⟨Nat.le_of_ble_eq_true rfl, Nat.le_of_ble_eq_true rfl⟩ (fun r4 w1 H locs hw hP hD hS => ?_)
      obtain ⟨hrr, rfl⟩ := hw
      have hrr := hrr.symm
      subst hrr
      have hP : va_P D vwCl [(c1, .inr (5, [.ref c2, .ref c3, .int vzc, .int vwc, .int vhc, .int vkc])), (c2, .inl (cI, 144, .inl pxc)), (c3, .inl (cI, 9, .inl mdc)), (r1, .inr (5, [.ref r2, .ref r3, .int vzr, .int vwr, .int vhr, .int vkr])), (r2, .inl (cI, 144, .inl pxr)), (r3, .inl (cI, 9, .inl mdr)), (f0, .inr (8, [.ref a1, .ref c1, .ref r1, .ref y1, .ref k1, .ref j1, .int ibc, .int ilc, .int igl, .int ibk, .int ifa, .int ibd]))] H := hP
      have hD : va_D A [(c1, .inr (5, [.ref c2, .ref c3, .int vzc, .int vwc, .int vhc, .int vkc])), (c2, .inl (cI, 144, .inl pxc)), (c3, .inl (cI, 9, .inl mdc)), (r1, .inr (5, [.ref r2, .ref r3, .int vzr, .int vwr, .int vhr, .int vkr])), (r2, .inl (cI, 144, .inl pxr)), (r3, .inl (cI, 9, .inl mdr)), (f0, .inr (8, [.ref a1, .ref c1, .ref r1, .ref y1, .ref k1, .ref j1, .int ibc, .int ilc, .int igl, .int ibk, .int ifa, .int ibd]))] := hD
      refine lv_astore (lv' := [(4, .ref r1), (3, .ref c1), (0, .ref f0), (1, .int 1), (2, .int 2)]) hx hb d_TileForge_apart_33 hl (by decide) rfl (fun ls hl => ?_)
      refine lv_aload_n hx hb d_TileForge_apart_35 rfl (lv_at hl 1 rfl) ?_
      refine va_get (D := D) (ci := 5) (v := .int vzc) (C := "TileForge$Picture") (T := T_Picture) (N := 6) hx hb hts (cs_in in_Picture) hown hK hP 0 rfl rfl 2 (by decide) (hts _ (cs_m mw_523)) (fun _ h9 => h9) rfl d_TileForge_apart_36 ?_
      refine lv_if_eq (tgt := 50) hx hb d_TileForge_apart_39 (by decide) (fun c_39 => ?_) (fun c_39 => ?_)
      · exact absurd c_39 hm1
      · refine lv_aload hx hb d_TileForge_apart_42 (lv_at hl 0 rfl) ?_
        refine va_get (D := D) (ci := 5) (v := .int vzr) (C := "TileForge$Picture") (T := T_Picture) (N := 6) hx hb hts (cs_in in_Picture) hown hK hP 3 rfl rfl 2 (by decide) (hts _ (cs_m mw_523)) (fun _ h9 => h9) rfl d_TileForge_apart_44 ?_
        refine lv_if_ne (tgt := 58) hx hb d_TileForge_apart_47 (by decide) (fun c_47 => ?_) (fun c_47 => ?_)
        · refine lv_aload_n hx hb d_TileForge_apart_58 rfl (lv_at hl 1 rfl) ?_
          refine va_get (D := D) (ci := 5) (v := .int vwc) (C := "TileForge$Picture") (T := T_Picture) (N := 6) hx hb hts (cs_in in_Picture) hown hK hP 0 rfl rfl 3 (by decide) (hts _ (cs_m mw_478)) (fun _ h9 => h9) rfl d_TileForge_apart_59 ?_
          refine lv_aload hx hb d_TileForge_apart_62 (lv_at hl 0 rfl) ?_
          refine va_get (D := D) (ci := 5) (v := .int vwr) (C := "TileForge$Picture") (T := T_Picture) (N := 6) hx hb hts (cs_in in_Picture) hown hK hP 3 rfl rfl 3 (by decide) (hts _ (cs_m mw_478)) (fun _ h9 => h9) rfl d_TileForge_apart_64 ?_
          refine lv_icmp_ne (tgt := 82) hx hb d_TileForge_apart_67 (by decide) (fun c_67 => ?_) (fun c_67 => ?_)
          · have hP := hP.sub (ws' := [(f0, .inr (8, [.ref a1, .ref c1, .ref r1, .ref y1, .ref k1, .ref j1, .int ibc, .int ilc, .int igl, .int ibk, .int ifa, .int ibd])), (c1, .inr (5, [.ref c2, .ref c3, .int vzc, .int vwc, .int vhc, .int vkc])), (c2, .inl (cI, 144, .inl pxc)), (c3, .inl (cI, 9, .inl mdc)), (r1, .inr (5, [.ref r2, .ref r3, .int vzr, .int vwr, .int vhr, .int vkr])), (r2, .inl (cI, 144, .inl pxr)), (r3, .inl (cI, 9, .inl mdr))]) [6, 0, 1, 2, 3, 4, 5] rfl
            have hD := hD.sub (ws' := [(f0, .inr (8, [.ref a1, .ref c1, .ref r1, .ref y1, .ref k1, .ref j1, .int ibc, .int ilc, .int igl, .int ibk, .int ifa, .int ibd])), (c1, .inr (5, [.ref c2, .ref c3, .int vzc, .int vwc, .int vhc, .int vkc])), (c2, .inl (cI, 144, .inl pxc)), (c3, .inl (cI, 9, .inl mdc)), (r1, .inr (5, [.ref r2, .ref r3, .int vzr, .int vwr, .int vhr, .int vkr])), (r2, .inl (cI, 144, .inl pxr)), (r3, .inl (cI, 9, .inl mdr))]) [6, 0, 1, 2, 3, 4, 5] (by decide) rfl
            exact cx_thr (ix := 116) (ic := 118) (E := "java/lang/UnsupportedOperationException") (post := (q_tf_apartD12 cI f0 a1 c1 r1 y1 k1 j1 ibc ilc igl ibk ifa ibd c2 c3 pxc mdc vzc vwc vhc vkc r2 r3 pxr mdr vzr vwr vhr vkr)) hx hb hst (hl.1.trans hml.symm) B.named hts hown hX hP0 hAe mw_573 mw_574 mw_575 oa_UOE fi_UOE hK hP hD hS hlocks (Nat.le_of_ble_eq_true rfl) (Nat.le_of_ble_eq_true rfl) (Nat.le_of_ble_eq_true rfl) (Nat.le_of_ble_eq_true rfl) (Nat.le_of_ble_eq_true rfl) (Nat.le_of_ble_eq_true rfl) d_TileForge_apart_82 d_TileForge_apart_85 d_TileForge_apart_86 d_TileForge_apart_89  (show _ = _ from rfl)
          · refine lv_aload_n hx hb d_TileForge_apart_70 rfl (lv_at hl 1 rfl) ?_
            refine va_get (D := D) (ci := 5) (v := .int vhc) (C := "TileForge$Picture") (T := T_Picture) (N := 6) hx hb hts (cs_in in_Picture) hown hK hP 0 rfl rfl 4 (by decide) (hts _ (cs_m mw_477)) (fun _ h9 => h9) rfl d_TileForge_apart_71 ?_
            refine lv_aload hx hb d_TileForge_apart_74 (lv_at hl 0 rfl) ?_
            refine va_get (D := D) (ci := 5) (v := .int vhr) (C := "TileForge$Picture") (T := T_Picture) (N := 6) hx hb hts (cs_in in_Picture) hown hK hP 3 rfl rfl 4 (by decide) (hts _ (cs_m mw_477)) (fun _ h9 => h9) rfl d_TileForge_apart_76 ?_
            refine lv_icmp_eq (tgt := 90) hx hb d_TileForge_apart_79 (by decide) (fun c_79 => ?_) (fun c_79 => ?_)
            · exact absurd (⟨c_67, c_79⟩ : vwc = vwr ∧ vhc = vhr) hbad
            · have hP := hP.sub (ws' := [(f0, .inr (8, [.ref a1, .ref c1, .ref r1, .ref y1, .ref k1, .ref j1, .int ibc, .int ilc, .int igl, .int ibk, .int ifa, .int ibd])), (c1, .inr (5, [.ref c2, .ref c3, .int vzc, .int vwc, .int vhc, .int vkc])), (c2, .inl (cI, 144, .inl pxc)), (c3, .inl (cI, 9, .inl mdc)), (r1, .inr (5, [.ref r2, .ref r3, .int vzr, .int vwr, .int vhr, .int vkr])), (r2, .inl (cI, 144, .inl pxr)), (r3, .inl (cI, 9, .inl mdr))]) [6, 0, 1, 2, 3, 4, 5] rfl
              have hD := hD.sub (ws' := [(f0, .inr (8, [.ref a1, .ref c1, .ref r1, .ref y1, .ref k1, .ref j1, .int ibc, .int ilc, .int igl, .int ibk, .int ifa, .int ibd])), (c1, .inr (5, [.ref c2, .ref c3, .int vzc, .int vwc, .int vhc, .int vkc])), (c2, .inl (cI, 144, .inl pxc)), (c3, .inl (cI, 9, .inl mdc)), (r1, .inr (5, [.ref r2, .ref r3, .int vzr, .int vwr, .int vhr, .int vkr])), (r2, .inl (cI, 144, .inl pxr)), (r3, .inl (cI, 9, .inl mdr))]) [6, 0, 1, 2, 3, 4, 5] (by decide) rfl
              exact cx_thr (ix := 116) (ic := 118) (E := "java/lang/UnsupportedOperationException") (post := (q_tf_apartD12 cI f0 a1 c1 r1 y1 k1 j1 ibc ilc igl ibk ifa ibd c2 c3 pxc mdc vzc vwc vhc vkc r2 r3 pxr mdr vzr vwr vhr vkr)) hx hb hst (hl.1.trans hml.symm) B.named hts hown hX hP0 hAe mw_573 mw_574 mw_575 oa_UOE fi_UOE hK hP hD hS hlocks (Nat.le_of_ble_eq_true rfl) (Nat.le_of_ble_eq_true rfl) (Nat.le_of_ble_eq_true rfl) (Nat.le_of_ble_eq_true rfl) (Nat.le_of_ble_eq_true rfl) (Nat.le_of_ble_eq_true rfl) d_TileForge_apart_82 d_TileForge_apart_85 d_TileForge_apart_86 d_TileForge_apart_89  (show _ = _ from rfl)
        · exact absurd c_47 hm2
    · have c_11 := cs_b0 c_11
      exact absurd (by decide) c_11
def q_tf_apartC20 (cI : ClassId) (f0 : Nat) (a1 : Nat) (c1 : Nat) (r1 : Nat) (y1 : Nat) (k1 : Nat) (j1 : Nat) (ibc : Int32) (ilc : Int32) (igl : Int32) (ibk : Int32) (ifa : Int32) (ibd : Int32) (r2 : Nat) (r3 : Nat) (pxr : Nat → Int32) (mdr : Nat → Int32) (vzr : Int32) (vwr : Int32) (vhr : Int32) (vkr : Int32) (a2 : Nat) (a3 : Nat) (px : Nat → Int32) (md : Nat → Int32) (vz : Int32) (vw : Int32) (vh : Int32) (vk : Int32) : va_W → Prop := fun ww => ww = [(f0, .inr (8, [.ref a1, .ref c1, .ref r1, .ref y1, .ref k1, .ref j1, .int ibc, .int ilc, .int igl, .int ibk, .int ifa, .int ibd])), (r1, .inr (5, [.ref r2, .ref r3, .int vzr, .int vwr, .int vhr, .int vkr])), (r2, .inl (cI, 144, .inl pxr)), (r3, .inl (cI, 9, .inl mdr)), (a1, .inr (5, [.ref a2, .ref a3, .int vz, .int vw, .int vh, .int vk])), (a2, .inl (cI, 144, .inl px)), (a3, .inl (cI, 9, .inl md))]
set_option maxHeartbeats 4000000 in
set_option maxRecDepth 100000 in
theorem c_tf_apartC20 (l : Launch) (hst : l.stackTraces = false) {D : va_G} {tys : List (ClassId × FieldType)} {cI : ClassId} (hcI : tys[0]? = some (cI, .int)) (f0 : Nat) (a1 : Nat) (c1 : Nat) (r1 : Nat) (y1 : Nat) (k1 : Nat) (j1 : Nat) (ibc : Int32) (ilc : Int32) (igl : Int32) (ibk : Int32) (ifa : Int32) (ibd : Int32) (r2 : Nat) (r3 : Nat) (pxr : Nat → Int32) (mdr : Nat → Int32) (vzr : Int32) (vwr : Int32) (vhr : Int32) (vkr : Int32) (a2 : Nat) (a3 : Nat) (px : Nat → Int32) (md : Nat → Int32) (vz : Int32) (vw : Int32) (vh : Int32) (vk : Int32) (hbad : ¬ (¬ vzr = 0 ∧ ¬ vz = 0)) : CxE l D vwCl tys y_TileForge_apart ws_TileForge_apart ({ frames := 6, cells := 1, slots := 6, locals := 81 } : Room) [.ref f0, .int 2, .int 0] [(f0, .inr (8, [.ref a1, .ref c1, .ref r1, .ref y1, .ref k1, .ref j1, .int ibc, .int ilc, .int igl, .int ibk, .int ifa, .int ibd])), (r1, .inr (5, [.ref r2, .ref r3, .int vzr, .int vwr, .int vhr, .int vkr])), (r2, .inl (cI, 144, .inl pxr)), (r3, .inl (cI, 9, .inl mdr)), (a1, .inr (5, [.ref a2, .ref a3, .int vz, .int vw, .int vh, .int vk])), (a2, .inl (cI, 144, .inl px)), (a3, .inl (cI, 9, .inl md))] (q_tf_apartC20 cI f0 a1 c1 r1 y1 k1 j1 ibc ilc igl ibk ifa ibd r2 r3 pxr mdr vzr vwr vhr vkr a2 a3 px md vz vw vh vk) "java/lang/IllegalStateException" 1 6 := by
  intro sz
  refine cx_ofW (cc := prog_1_method_11_code) (maxL := 5) (ret := (some .double)) (by decide) rfl ?_
  intro p e s m args below meth c s₁ B hml hv
  obtain ⟨rfl, ⟨hsz, hP, hK, hD0, hN⟩, hX⟩ := hv
  have hx := B.exec
  have hb := B.bytes
  have hr := B.returns
  have hts := atoms_spec (ws := ws_TileForge_apart) B.pre
  have hown : s.vm.findClass "TileForge" = some m.cls := findClass_of_methodNamed B.named
  have hlocks := B.notSynchronized
  subst hsz
  have hD := hD0.self (sz := s.heap.size)
  generalize hAe : va_A [(f0, .inr (8, [.ref a1, .ref c1, .ref r1, .ref y1, .ref k1, .ref j1, .int ibc, .int ilc, .int igl, .int ibk, .int ifa, .int ibd])), (r1, .inr (5, [.ref r2, .ref r3, .int vzr, .int vwr, .int vhr, .int vkr])), (r2, .inl (cI, 144, .inl pxr)), (r3, .inl (cI, 9, .inl mdr)), (a1, .inr (5, [.ref a2, .ref a3, .int vz, .int vw, .int vh, .int vk])), (a2, .inl (cI, 144, .inl px)), (a3, .inl (cI, 9, .inl md))] s.heap.size = A at hD ⊢
  have hA : ∀ q : Nat, s.heap.size ≤ q → A q := fun q h => by rw [← hAe]; exact Or.inr h
  have hS : va_S A s.heap s.heap [] := va_S.rf
  have hP : va_P D vwCl [(f0, .inr (8, [.ref a1, .ref c1, .ref r1, .ref y1, .ref k1, .ref j1, .int ibc, .int ilc, .int igl, .int ibk, .int ifa, .int ibd])), (r1, .inr (5, [.ref r2, .ref r3, .int vzr, .int vwr, .int vhr, .int vkr])), (r2, .inl (cI, 144, .inl pxr)), (r3, .inl (cI, 9, .inl mdr)), (a1, .inr (5, [.ref a2, .ref a3, .int vz, .int vw, .int vh, .int vk])), (a2, .inl (cI, 144, .inl px)), (a3, .inl (cI, 9, .inl md))] s.heap := hP
  have hP0 := hP
  have hl := lv_entry ([.ref f0, .int 2, .int 0]) (n := 5) (Nat.le_of_ble_eq_true rfl)
  rw [lg_entry_eq]
  generalize (lg_sl ([.ref f0, .int 2, .int 0]) ++ List.replicate (5 - (lg_sl ([.ref f0, .int 2, .int 0])).length) Slot.unset).toArray = ls at hl ⊢
  have hl : lv_has ls 5 [(0, .ref f0), (1, .int 2), (2, .int 0)] := hl
  refine lv_iload_n hx hb d_TileForge_apart_0 rfl (lv_at hl 1 rfl) ?_
  refine cs_Si (As := [.int 2]) (rest := []) (wr := [(f0, .inr (8, [.ref a1, .ref c1, .ref r1, .ref y1, .ref k1, .ref j1, .int ibc, .int ilc, .int igl, .int ibk, .int ifa, .int ibd])), (r1, .inr (5, [.ref r2, .ref r3, .int vzr, .int vwr, .int vhr, .int vkr])), (r2, .inl (cI, 144, .inl pxr)), (r3, .inl (cI, 9, .inl mdr)), (a1, .inr (5, [.ref a2, .ref a3, .int vz, .int vw, .int vh, .int vk])), (a2, .inl (cI, 144, .inl px)), (a3, .inl (cI, 9, .inl md))]) ⟨hx, hb, hml, hown, hts⟩ (c_isChoice l hcI 2) (va_cwS 1 hts (cs_gS mw_518 mw_519 mw_139 mw_77) rfl rfl rfl hd_TileForge_isChoice ⟨Nat.le_of_ble_eq_true rfl, Nat.le_of_ble_eq_true rfl⟩) hN hK hP hD hS hA [] [0, 1, 2, 3, 4, 5, 6] rfl rfl rfl rfl (by decide) rfl rfl hl.1 (Nat.le_of_ble_eq_true rfl) d_TileForge_apart_1 ⟨Nat.le_of_ble_eq_true rfl, Nat.le_of_ble_eq_true rfl⟩ (fun r1 w1 H locs hw hP hD hS => ?_)
  obtain ⟨rfl, rfl⟩ := hw
  have hP : va_P D vwCl [(f0, .inr (8, [.ref a1, .ref c1, .ref r1, .ref y1, .ref k1, .ref j1, .int ibc, .int ilc, .int igl, .int ibk, .int ifa, .int ibd])), (r1, .inr (5, [.ref r2, .ref r3, .int vzr, .int vwr, .int vhr, .int vkr])), (r2, .inl (cI, 144, .inl pxr)), (r3, .inl (cI, 9, .inl mdr)), (a1, .inr (5, [.ref a2, .ref a3, .int vz, .int vw, .int vh, .int vk])), (a2, .inl (cI, 144, .inl px)), (a3, .inl (cI, 9, .inl md))] H := hP
  have hD : va_D A [(f0, .inr (8, [.ref a1, .ref c1, .ref r1, .ref y1, .ref k1, .ref j1, .int ibc, .int ilc, .int igl, .int ibk, .int ifa, .int ibd])), (r1, .inr (5, [.ref r2, .ref r3, .int vzr, .int vwr, .int vhr, .int vkr])), (r2, .inl (cI, 144, .inl pxr)), (r3, .inl (cI, 9, .inl mdr)), (a1, .inr (5, [.ref a2, .ref a3, .int vz, .int vw, .int vh, .int vk])), (a2, .inl (cI, 144, .inl px)), (a3, .inl (cI, 9, .inl md))] := hD
  refine lv_if_eq (tgt := 14) hx hb d_TileForge_apart_4 (by decide) (fun c_4 => ?_) (fun c_4 => ?_)
  · have c_4 := cs_b0 c_4
    exact absurd (by decide) c_4
  · have c_4 := cs_b1 c_4
    refine lv_iload_n hx hb d_TileForge_apart_7 rfl (lv_at hl 2 rfl) ?_
    refine cs_Si (As := [.int 0]) (rest := []) (wr := [(f0, .inr (8, [.ref a1, .ref c1, .ref r1, .ref y1, .ref k1, .ref j1, .int ibc, .int ilc, .int igl, .int ibk, .int ifa, .int ibd])), (r1, .inr (5, [.ref r2, .ref r3, .int vzr, .int vwr, .int vhr, .int vkr])), (r2, .inl (cI, 144, .inl pxr)), (r3, .inl (cI, 9, .inl mdr)), (a1, .inr (5, [.ref a2, .ref a3, .int vz, .int vw, .int vh, .int vk])), (a2, .inl (cI, 144, .inl px)), (a3, .inl (cI, 9, .inl md))]) ⟨hx, hb, hml, hown, hts⟩ (c_isChoice l hcI 0) (va_cwS 1 hts (cs_gS mw_518 mw_519 mw_139 mw_77) rfl rfl rfl hd_TileForge_isChoice ⟨Nat.le_of_ble_eq_true rfl, Nat.le_of_ble_eq_true rfl⟩) hN hK hP hD hS hA [] [0, 1, 2, 3, 4, 5, 6] rfl rfl rfl rfl (by decide) rfl rfl hl.1 (Nat.le_of_ble_eq_true rfl) d_TileForge_apart_8 ⟨Nat.le_of_ble_eq_true rfl, Nat.le_of_ble_eq_true rfl⟩ (fun r2 w1 H locs hw hP hD hS => ?_)
    obtain ⟨rfl, rfl⟩ := hw
    have hP : va_P D vwCl [(f0, .inr (8, [.ref a1, .ref c1, .ref r1, .ref y1, .ref k1, .ref j1, .int ibc, .int ilc, .int igl, .int ibk, .int ifa, .int ibd])), (r1, .inr (5, [.ref r2, .ref r3, .int vzr, .int vwr, .int vhr, .int vkr])), (r2, .inl (cI, 144, .inl pxr)), (r3, .inl (cI, 9, .inl mdr)), (a1, .inr (5, [.ref a2, .ref a3, .int vz, .int vw, .int vh, .int vk])), (a2, .inl (cI, 144, .inl px)), (a3, .inl (cI, 9, .inl md))] H := hP
    have hD : va_D A [(f0, .inr (8, [.ref a1, .ref c1, .ref r1, .ref y1, .ref k1, .ref j1, .int ibc, .int ilc, .int igl, .int ibk, .int ifa, .int ibd])), (r1, .inr (5, [.ref r2, .ref r3, .int vzr, .int vwr, .int vhr, .int vkr])), (r2, .inl (cI, 144, .inl pxr)), (r3, .inl (cI, 9, .inl mdr)), (a1, .inr (5, [.ref a2, .ref a3, .int vz, .int vw, .int vh, .int vk])), (a2, .inl (cI, 144, .inl px)), (a3, .inl (cI, 9, .inl md))] := hD
    refine lv_if_ne (tgt := 22) hx hb d_TileForge_apart_11 (by decide) (fun c_11 => ?_) (fun c_11 => ?_)
    · have c_11 := cs_b1 c_11
      refine lv_aload_n hx hb d_TileForge_apart_22 rfl (lv_at hl 0 rfl) ?_
      refine lv_iload_n hx hb d_TileForge_apart_23 rfl (lv_at hl 1 rfl) ?_
      refine cs_Vr (As := [.int 2]) (rest := []) (wr := [(r1, .inr (5, [.ref r2, .ref r3, .int vzr, .int vwr, .int vhr, .int vkr])), (r2, .inl (cI, 144, .inl pxr)), (r3, .inl (cI, 9, .inl mdr)), (a1, .inr (5, [.ref a2, .ref a3, .int vz, .int vw, .int vh, .int vk])), (a2, .inl (cI, 144, .inl px)), (a3, .inl (cI, 9, .inl md))]) ⟨hx, hb, hml, hown, hts⟩ (c_tf_choose2 l hcI f0 a1 c1 r1 y1 k1 j1 ibc ilc igl ibk ifa ibd) (cwV 1 hts (cs_gV mw_520 mw_521 mw_522 mw_139 mw_472) rfl rfl rfl ⟨rfl, hd_TileForge_choose⟩ ⟨Nat.le_of_ble_eq_true rfl, Nat.le_of_ble_eq_true rfl⟩) hN hK hP hD hS hA [0] [1, 2, 3, 4, 5, 6] rfl rfl rfl rfl (by decide) (ci := 8) rfl rfl rfl rfl rfl hl.1 (Nat.le_of_ble_eq_true rfl) d_TileForge_apart_24 ⟨Nat.le_of_ble_eq_true rfl, Nat.le_of_ble_eq_true rfl⟩ (fun r3 w1 H locs hw hP hD hS => ?_)
      obtain ⟨hrr, rfl⟩ := hw
      have hrr := hrr.symm
      subst hrr
      have hP : va_P D vwCl [(r1, .inr (5, [.ref r2, .ref r3, .int vzr, .int vwr, .int vhr, .int vkr])), (r2, .inl (cI, 144, .inl pxr)), (r3, .inl (cI, 9, .inl mdr)), (a1, .inr (5, [.ref a2, .ref a3, .int vz, .int vw, .int vh, .int vk])), (a2, .inl (cI, 144, .inl px)), (a3, .inl (cI, 9, .inl md)), (f0, .inr (8, [.ref a1, .ref c1, .ref r1, .ref y1, .ref k1, .ref j1, .int ibc, .int ilc, .int igl, .int ibk, .int ifa, .int ibd]))] H := hP
      have hD : va_D A [(r1, .inr (5, [.ref r2, .ref r3, .int vzr, .int vwr, .int vhr, .int vkr])), (r2, .inl (cI, 144, .inl pxr)), (r3, .inl (cI, 9, .inl mdr)), (a1, .inr (5, [.ref a2, .ref a3, .int vz, .int vw, .int vh, .int vk])), (a2, .inl (cI, 144, .inl px)), (a3, .inl (cI, 9, .inl md)), (f0, .inr (8, [.ref a1, .ref c1, .ref r1, .ref y1, .ref k1, .ref j1, .int ibc, .int ilc, .int igl, .int ibk, .int ifa, .int ibd]))] := hD
      refine lv_astore_n (lv' := [(3, .ref r1), (0, .ref f0), (1, .int 2), (2, .int 0)]) hx hb d_TileForge_apart_27 rfl hl (by decide) rfl (fun ls hl => ?_)
      refine lv_aload_n hx hb d_TileForge_apart_28 rfl (lv_at hl 1 rfl) ?_
      refine lv_iload_n hx hb d_TileForge_apart_29 rfl (lv_at hl 3 rfl) ?_
      refine cs_Vr (As := [.int 0]) (rest := []) (wr := [(r1, .inr (5, [.ref r2, .ref r3, .int vzr, .int vwr, .int vhr, .int vkr])), (r2, .inl (cI, 144, .inl pxr)), (r3, .inl (cI, 9, .inl mdr)), (a1, .inr (5, [.ref a2, .ref a3, .int vz, .int vw, .int vh, .int vk])), (a2, .inl (cI, 144, .inl px)), (a3, .inl (cI, 9, .inl md))]) ⟨hx, hb, hml, hown, hts⟩ (c_tf_choose0 l hcI f0 a1 c1 r1 y1 k1 j1 ibc ilc igl ibk ifa ibd) (cwV 1 hts (cs_gV mw_520 mw_521 mw_522 mw_139 mw_472) rfl rfl rfl ⟨rfl, hd_TileForge_choose⟩ ⟨Nat.le_of_ble_eq_true rfl, Nat.le_of_ble_eq_true rfl⟩) hN hK hP hD hS hA [6] [0, 1, 2, 3, 4, 5] rfl rfl rfl rfl (by decide) (ci := 8) rfl rfl rfl rfl rfl hl.1 (Nat.le_of_ble_eq_true rfl) d_TileForge_apart_30 ⟨Nat.le_of_ble_eq_true rfl, Nat.le_of_ble_eq_true rfl⟩ (fun r4 w1 H locs hw hP hD hS => ?_)
      obtain ⟨hrr, rfl⟩ := hw
      have hrr := hrr.symm
      subst hrr
      have hP : va_P D vwCl [(r1, .inr (5, [.ref r2, .ref r3, .int vzr, .int vwr, .int vhr, .int vkr])), (r2, .inl (cI, 144, .inl pxr)), (r3, .inl (cI, 9, .inl mdr)), (a1, .inr (5, [.ref a2, .ref a3, .int vz, .int vw, .int vh, .int vk])), (a2, .inl (cI, 144, .inl px)), (a3, .inl (cI, 9, .inl md)), (f0, .inr (8, [.ref a1, .ref c1, .ref r1, .ref y1, .ref k1, .ref j1, .int ibc, .int ilc, .int igl, .int ibk, .int ifa, .int ibd]))] H := hP
      have hD : va_D A [(r1, .inr (5, [.ref r2, .ref r3, .int vzr, .int vwr, .int vhr, .int vkr])), (r2, .inl (cI, 144, .inl pxr)), (r3, .inl (cI, 9, .inl mdr)), (a1, .inr (5, [.ref a2, .ref a3, .int vz, .int vw, .int vh, .int vk])), (a2, .inl (cI, 144, .inl px)), (a3, .inl (cI, 9, .inl md)), (f0, .inr (8, [.ref a1, .ref c1, .ref r1, .ref y1, .ref k1, .ref j1, .int ibc, .int ilc, .int igl, .int ibk, .int ifa, .int ibd]))] := hD
      refine lv_astore (lv' := [(4, .ref a1), (3, .ref r1), (0, .ref f0), (1, .int 2), (2, .int 0)]) hx hb d_TileForge_apart_33 hl (by decide) rfl (fun ls hl => ?_)
      refine lv_aload_n hx hb d_TileForge_apart_35 rfl (lv_at hl 1 rfl) ?_
      refine va_get (D := D) (ci := 5) (v := .int vzr) (C := "TileForge$Picture") (T := T_Picture) (N := 6) hx hb hts (cs_in in_Picture) hown hK hP 0 rfl rfl 2 (by decide) (hts _ (cs_m mw_523)) (fun _ h9 => h9) rfl d_TileForge_apart_36 ?_
      refine lv_if_eq (tgt := 50) hx hb d_TileForge_apart_39 (by decide) (fun c_39 => ?_) (fun c_39 => ?_)
      · have hP := hP.sub (ws' := [(f0, .inr (8, [.ref a1, .ref c1, .ref r1, .ref y1, .ref k1, .ref j1, .int ibc, .int ilc, .int igl, .int ibk, .int ifa, .int ibd])), (r1, .inr (5, [.ref r2, .ref r3, .int vzr, .int vwr, .int vhr, .int vkr])), (r2, .inl (cI, 144, .inl pxr)), (r3, .inl (cI, 9, .inl mdr)), (a1, .inr (5, [.ref a2, .ref a3, .int vz, .int vw, .int vh, .int vk])), (a2, .inl (cI, 144, .inl px)), (a3, .inl (cI, 9, .inl md))]) [6, 0, 1, 2, 3, 4, 5] rfl
        have hD := hD.sub (ws' := [(f0, .inr (8, [.ref a1, .ref c1, .ref r1, .ref y1, .ref k1, .ref j1, .int ibc, .int ilc, .int igl, .int ibk, .int ifa, .int ibd])), (r1, .inr (5, [.ref r2, .ref r3, .int vzr, .int vwr, .int vhr, .int vkr])), (r2, .inl (cI, 144, .inl pxr)), (r3, .inl (cI, 9, .inl mdr)), (a1, .inr (5, [.ref a2, .ref a3, .int vz, .int vw, .int vh, .int vk])), (a2, .inl (cI, 144, .inl px)), (a3, .inl (cI, 9, .inl md))]) [6, 0, 1, 2, 3, 4, 5] (by decide) rfl
        exact cx_thr (ix := 103) (ic := 105) (E := "java/lang/IllegalStateException") (post := (q_tf_apartC20 cI f0 a1 c1 r1 y1 k1 j1 ibc ilc igl ibk ifa ibd r2 r3 pxr mdr vzr vwr vhr vkr a2 a3 px md vz vw vh vk)) hx hb hst (hl.1.trans hml.symm) B.named hts hown hX hP0 hAe mw_576 mw_577 mw_578 oa_ISE fi_ISE hK hP hD hS hlocks (Nat.le_of_ble_eq_true rfl) (Nat.le_of_ble_eq_true rfl) (Nat.le_of_ble_eq_true rfl) (Nat.le_of_ble_eq_true rfl) (Nat.le_of_ble_eq_true rfl) (Nat.le_of_ble_eq_true rfl) d_TileForge_apart_50 d_TileForge_apart_53 d_TileForge_apart_54 d_TileForge_apart_57  (show _ = _ from rfl)
      · refine lv_aload hx hb d_TileForge_apart_42 (lv_at hl 0 rfl) ?_
        refine va_get (D := D) (ci := 5) (v := .int vz) (C := "TileForge$Picture") (T := T_Picture) (N := 6) hx hb hts (cs_in in_Picture) hown hK hP 3 rfl rfl 2 (by decide) (hts _ (cs_m mw_523)) (fun _ h9 => h9) rfl d_TileForge_apart_44 ?_
        refine lv_if_ne (tgt := 58) hx hb d_TileForge_apart_47 (by decide) (fun c_47 => ?_) (fun c_47 => ?_)
        · exact absurd (⟨c_39, c_47⟩ : ¬ vzr = 0 ∧ ¬ vz = 0) hbad
        · have hP := hP.sub (ws' := [(f0, .inr (8, [.ref a1, .ref c1, .ref r1, .ref y1, .ref k1, .ref j1, .int ibc, .int ilc, .int igl, .int ibk, .int ifa, .int ibd])), (r1, .inr (5, [.ref r2, .ref r3, .int vzr, .int vwr, .int vhr, .int vkr])), (r2, .inl (cI, 144, .inl pxr)), (r3, .inl (cI, 9, .inl mdr)), (a1, .inr (5, [.ref a2, .ref a3, .int vz, .int vw, .int vh, .int vk])), (a2, .inl (cI, 144, .inl px)), (a3, .inl (cI, 9, .inl md))]) [6, 0, 1, 2, 3, 4, 5] rfl
          have hD := hD.sub (ws' := [(f0, .inr (8, [.ref a1, .ref c1, .ref r1, .ref y1, .ref k1, .ref j1, .int ibc, .int ilc, .int igl, .int ibk, .int ifa, .int ibd])), (r1, .inr (5, [.ref r2, .ref r3, .int vzr, .int vwr, .int vhr, .int vkr])), (r2, .inl (cI, 144, .inl pxr)), (r3, .inl (cI, 9, .inl mdr)), (a1, .inr (5, [.ref a2, .ref a3, .int vz, .int vw, .int vh, .int vk])), (a2, .inl (cI, 144, .inl px)), (a3, .inl (cI, 9, .inl md))]) [6, 0, 1, 2, 3, 4, 5] (by decide) rfl
          exact cx_thr (ix := 103) (ic := 105) (E := "java/lang/IllegalStateException") (post := (q_tf_apartC20 cI f0 a1 c1 r1 y1 k1 j1 ibc ilc igl ibk ifa ibd r2 r3 pxr mdr vzr vwr vhr vkr a2 a3 px md vz vw vh vk)) hx hb hst (hl.1.trans hml.symm) B.named hts hown hX hP0 hAe mw_576 mw_577 mw_578 oa_ISE fi_ISE hK hP hD hS hlocks (Nat.le_of_ble_eq_true rfl) (Nat.le_of_ble_eq_true rfl) (Nat.le_of_ble_eq_true rfl) (Nat.le_of_ble_eq_true rfl) (Nat.le_of_ble_eq_true rfl) (Nat.le_of_ble_eq_true rfl) d_TileForge_apart_50 d_TileForge_apart_53 d_TileForge_apart_54 d_TileForge_apart_57  (show _ = _ from rfl)
    · have c_11 := cs_b0 c_11
      exact absurd (by decide) c_11
def q_tf_apartD20 (cI : ClassId) (f0 : Nat) (a1 : Nat) (c1 : Nat) (r1 : Nat) (y1 : Nat) (k1 : Nat) (j1 : Nat) (ibc : Int32) (ilc : Int32) (igl : Int32) (ibk : Int32) (ifa : Int32) (ibd : Int32) (r2 : Nat) (r3 : Nat) (pxr : Nat → Int32) (mdr : Nat → Int32) (vzr : Int32) (vwr : Int32) (vhr : Int32) (vkr : Int32) (a2 : Nat) (a3 : Nat) (px : Nat → Int32) (md : Nat → Int32) (vz : Int32) (vw : Int32) (vh : Int32) (vk : Int32) : va_W → Prop := fun ww => ww = [(f0, .inr (8, [.ref a1, .ref c1, .ref r1, .ref y1, .ref k1, .ref j1, .int ibc, .int ilc, .int igl, .int ibk, .int ifa, .int ibd])), (r1, .inr (5, [.ref r2, .ref r3, .int vzr, .int vwr, .int vhr, .int vkr])), (r2, .inl (cI, 144, .inl pxr)), (r3, .inl (cI, 9, .inl mdr)), (a1, .inr (5, [.ref a2, .ref a3, .int vz, .int vw, .int vh, .int vk])), (a2, .inl (cI, 144, .inl px)), (a3, .inl (cI, 9, .inl md))]
set_option maxHeartbeats 4000000 in
set_option maxRecDepth 100000 in
theorem c_tf_apartD20 (l : Launch) (hst : l.stackTraces = false) {D : va_G} {tys : List (ClassId × FieldType)} {cI : ClassId} (hcI : tys[0]? = some (cI, .int)) (f0 : Nat) (a1 : Nat) (c1 : Nat) (r1 : Nat) (y1 : Nat) (k1 : Nat) (j1 : Nat) (ibc : Int32) (ilc : Int32) (igl : Int32) (ibk : Int32) (ifa : Int32) (ibd : Int32) (r2 : Nat) (r3 : Nat) (pxr : Nat → Int32) (mdr : Nat → Int32) (vzr : Int32) (vwr : Int32) (vhr : Int32) (vkr : Int32) (a2 : Nat) (a3 : Nat) (px : Nat → Int32) (md : Nat → Int32) (vz : Int32) (vw : Int32) (vh : Int32) (vk : Int32) (hm1 : ¬ vzr = 0) (hm2 : ¬ vz = 0) (hbad : ¬ (vwr = vw ∧ vhr = vh)) : CxE l D vwCl tys y_TileForge_apart ws_TileForge_apart ({ frames := 6, cells := 1, slots := 6, locals := 81 } : Room) [.ref f0, .int 2, .int 0] [(f0, .inr (8, [.ref a1, .ref c1, .ref r1, .ref y1, .ref k1, .ref j1, .int ibc, .int ilc, .int igl, .int ibk, .int ifa, .int ibd])), (r1, .inr (5, [.ref r2, .ref r3, .int vzr, .int vwr, .int vhr, .int vkr])), (r2, .inl (cI, 144, .inl pxr)), (r3, .inl (cI, 9, .inl mdr)), (a1, .inr (5, [.ref a2, .ref a3, .int vz, .int vw, .int vh, .int vk])), (a2, .inl (cI, 144, .inl px)), (a3, .inl (cI, 9, .inl md))] (q_tf_apartD20 cI f0 a1 c1 r1 y1 k1 j1 ibc ilc igl ibk ifa ibd r2 r3 pxr mdr vzr vwr vhr vkr a2 a3 px md vz vw vh vk) "java/lang/UnsupportedOperationException" 1 6 := by
  intro sz
  refine cx_ofW (cc := prog_1_method_11_code) (maxL := 5) (ret := (some .double)) (by decide) rfl ?_
  intro p e s m args below meth c s₁ B hml hv
  obtain ⟨rfl, ⟨hsz, hP, hK, hD0, hN⟩, hX⟩ := hv
  have hx := B.exec
  have hb := B.bytes
  have hr := B.returns
  have hts := atoms_spec (ws := ws_TileForge_apart) B.pre
  have hown : s.vm.findClass "TileForge" = some m.cls := findClass_of_methodNamed B.named
  have hlocks := B.notSynchronized
  subst hsz
  have hD := hD0.self (sz := s.heap.size)
  generalize hAe : va_A [(f0, .inr (8, [.ref a1, .ref c1, .ref r1, .ref y1, .ref k1, .ref j1, .int ibc, .int ilc, .int igl, .int ibk, .int ifa, .int ibd])), (r1, .inr (5, [.ref r2, .ref r3, .int vzr, .int vwr, .int vhr, .int vkr])), (r2, .inl (cI, 144, .inl pxr)), (r3, .inl (cI, 9, .inl mdr)), (a1, .inr (5, [.ref a2, .ref a3, .int vz, .int vw, .int vh, .int vk])), (a2, .inl (cI, 144, .inl px)), (a3, .inl (cI, 9, .inl md))] s.heap.size = A at hD ⊢
  have hA : ∀ q : Nat, s.heap.size ≤ q → A q := fun q h => by rw [← hAe]; exact Or.inr h
  have hS : va_S A s.heap s.heap [] := va_S.rf
  have hP : va_P D vwCl [(f0, .inr (8, [.ref a1, .ref c1, .ref r1, .ref y1, .ref k1, .ref j1, .int ibc, .int ilc, .int igl, .int ibk, .int ifa, .int ibd])), (r1, .inr (5, [.ref r2, .ref r3, .int vzr, .int vwr, .int vhr, .int vkr])), (r2, .inl (cI, 144, .inl pxr)), (r3, .inl (cI, 9, .inl mdr)), (a1, .inr (5, [.ref a2, .ref a3, .int vz, .int vw, .int vh, .int vk])), (a2, .inl (cI, 144, .inl px)), (a3, .inl (cI, 9, .inl md))] s.heap := hP
  have hP0 := hP
  have hl := lv_entry ([.ref f0, .int 2, .int 0]) (n := 5) (Nat.le_of_ble_eq_true rfl)
  rw [lg_entry_eq]
  generalize (lg_sl ([.ref f0, .int 2, .int 0]) ++ List.replicate (5 - (lg_sl ([.ref f0, .int 2, .int 0])).length) Slot.unset).toArray = ls at hl ⊢
  have hl : lv_has ls 5 [(0, .ref f0), (1, .int 2), (2, .int 0)] := hl
  refine lv_iload_n hx hb d_TileForge_apart_0 rfl (lv_at hl 1 rfl) ?_
  refine cs_Si (As := [.int 2]) (rest := []) (wr := [(f0, .inr (8, [.ref a1, .ref c1, .ref r1, .ref y1, .ref k1, .ref j1, .int ibc, .int ilc, .int igl, .int ibk, .int ifa, .int ibd])), (r1, .inr (5, [.ref r2, .ref r3, .int vzr, .int vwr, .int vhr, .int vkr])), (r2, .inl (cI, 144, .inl pxr)), (r3, .inl (cI, 9, .inl mdr)), (a1, .inr (5, [.ref a2, .ref a3, .int vz, .int vw, .int vh, .int vk])), (a2, .inl (cI, 144, .inl px)), (a3, .inl (cI, 9, .inl md))]) ⟨hx, hb, hml, hown, hts⟩ (c_isChoice l hcI 2) (va_cwS 1 hts (cs_gS mw_518 mw_519 mw_139 mw_77) rfl rfl rfl hd_TileForge_isChoice ⟨Nat.le_of_ble_eq_true rfl, Nat.le_of_ble_eq_true rfl⟩) hN hK hP hD hS hA [] [0, 1, 2, 3, 4, 5, 6] rfl rfl rfl rfl (by decide) rfl rfl hl.1 (Nat.le_of_ble_eq_true rfl) d_TileForge_apart_1 ⟨Nat.le_of_ble_eq_true rfl, Nat.le_of_ble_eq_true rfl⟩ (fun r1 w1 H locs hw hP hD hS => ?_)
  obtain ⟨rfl, rfl⟩ := hw
  have hP : va_P D vwCl [(f0, .inr (8, [.ref a1, .ref c1, .ref r1, .ref y1, .ref k1, .ref j1, .int ibc, .int ilc, .int igl, .int ibk, .int ifa, .int ibd])), (r1, .inr (5, [.ref r2, .ref r3, .int vzr, .int vwr, .int vhr, .int vkr])), (r2, .inl (cI, 144, .inl pxr)), (r3, .inl (cI, 9, .inl mdr)), (a1, .inr (5, [.ref a2, .ref a3, .int vz, .int vw, .int vh, .int vk])), (a2, .inl (cI, 144, .inl px)), (a3, .inl (cI, 9, .inl md))] H := hP
  have hD : va_D A [(f0, .inr (8, [.ref a1, .ref c1, .ref r1, .ref y1, .ref k1, .ref j1, .int ibc, .int ilc, .int igl, .int ibk, .int ifa, .int ibd])), (r1, .inr (5, [.ref r2, .ref r3, .int vzr, .int vwr, .int vhr, .int vkr])), (r2, .inl (cI, 144, .inl pxr)), (r3, .inl (cI, 9, .inl mdr)), (a1, .inr (5, [.ref a2, .ref a3, .int vz, .int vw, .int vh, .int vk])), (a2, .inl (cI, 144, .inl px)), (a3, .inl (cI, 9, .inl md))] := hD
  refine lv_if_eq (tgt := 14) hx hb d_TileForge_apart_4 (by decide) (fun c_4 => ?_) (fun c_4 => ?_)
  · have c_4 := cs_b0 c_4
    exact absurd (by decide) c_4
  · have c_4 := cs_b1 c_4
    refine lv_iload_n hx hb d_TileForge_apart_7 rfl (lv_at hl 2 rfl) ?_
    refine cs_Si (As := [.int 0]) (rest := []) (wr := [(f0, .inr (8, [.ref a1, .ref c1, .ref r1, .ref y1, .ref k1, .ref j1, .int ibc, .int ilc, .int igl, .int ibk, .int ifa, .int ibd])), (r1, .inr (5, [.ref r2, .ref r3, .int vzr, .int vwr, .int vhr, .int vkr])), (r2, .inl (cI, 144, .inl pxr)), (r3, .inl (cI, 9, .inl mdr)), (a1, .inr (5, [.ref a2, .ref a3, .int vz, .int vw, .int vh, .int vk])), (a2, .inl (cI, 144, .inl px)), (a3, .inl (cI, 9, .inl md))]) ⟨hx, hb, hml, hown, hts⟩ (c_isChoice l hcI 0) (va_cwS 1 hts (cs_gS mw_518 mw_519 mw_139 mw_77) rfl rfl rfl hd_TileForge_isChoice ⟨Nat.le_of_ble_eq_true rfl, Nat.le_of_ble_eq_true rfl⟩) hN hK hP hD hS hA [] [0, 1, 2, 3, 4, 5, 6] rfl rfl rfl rfl (by decide) rfl rfl hl.1 (Nat.le_of_ble_eq_true rfl) d_TileForge_apart_8 ⟨Nat.le_of_ble_eq_true rfl, Nat.le_of_ble_eq_true rfl⟩ (fun r2 w1 H locs hw hP hD hS => ?_)
    obtain ⟨rfl, rfl⟩ := hw
    have hP : va_P D vwCl [(f0, .inr (8, [.ref a1, .ref c1, .ref r1, .ref y1, .ref k1, .ref j1, .int ibc, .int ilc, .int igl, .int ibk, .int ifa, .int ibd])), (r1, .inr (5, [.ref r2, .ref r3, .int vzr, .int vwr, .int vhr, .int vkr])), (r2, .inl (cI, 144, .inl pxr)), (r3, .inl (cI, 9, .inl mdr)), (a1, .inr (5, [.ref a2, .ref a3, .int vz, .int vw, .int vh, .int vk])), (a2, .inl (cI, 144, .inl px)), (a3, .inl (cI, 9, .inl md))] H := hP
    have hD : va_D A [(f0, .inr (8, [.ref a1, .ref c1, .ref r1, .ref y1, .ref k1, .ref j1, .int ibc, .int ilc, .int igl, .int ibk, .int ifa, .int ibd])), (r1, .inr (5, [.ref r2, .ref r3, .int vzr, .int vwr, .int vhr, .int vkr])), (r2, .inl (cI, 144, .inl pxr)), (r3, .inl (cI, 9, .inl mdr)), (a1, .inr (5, [.ref a2, .ref a3, .int vz, .int vw, .int vh, .int vk])), (a2, .inl (cI, 144, .inl px)), (a3, .inl (cI, 9, .inl md))] := hD
    refine lv_if_ne (tgt := 22) hx hb d_TileForge_apart_11 (by decide) (fun c_11 => ?_) (fun c_11 => ?_)
    · have c_11 := cs_b1 c_11
      refine lv_aload_n hx hb d_TileForge_apart_22 rfl (lv_at hl 0 rfl) ?_
      refine lv_iload_n hx hb d_TileForge_apart_23 rfl (lv_at hl 1 rfl) ?_
      refine cs_Vr (As := [.int 2]) (rest := []) (wr := [(r1, .inr (5, [.ref r2, .ref r3, .int vzr, .int vwr, .int vhr, .int vkr])), (r2, .inl (cI, 144, .inl pxr)), (r3, .inl (cI, 9, .inl mdr)), (a1, .inr (5, [.ref a2, .ref a3, .int vz, .int vw, .int vh, .int vk])), (a2, .inl (cI, 144, .inl px)), (a3, .inl (cI, 9, .inl md))]) ⟨hx, hb, hml, hown, hts⟩ (c_tf_choose2 l hcI f0 a1 c1 r1 y1 k1 j1 ibc ilc igl ibk ifa ibd) (cwV 1 hts (cs_gV mw_520 mw_521 mw_522 mw_139 mw_472) rfl rfl rfl ⟨rfl, hd_TileForge_choose⟩ ⟨Nat.le_of_ble_eq_true rfl, Nat.le_of_ble_eq_true rfl⟩) hN hK hP hD hS hA [0] [1, 2, 3, 4, 5, 6] rfl rfl rfl rfl (by decide) (ci := 8) rfl rfl rfl rfl rfl hl.1 (Nat.le_of_ble_eq_true rfl) d_TileForge_apart_24 ⟨Nat.le_of_ble_eq_true rfl, Nat.le_of_ble_eq_true rfl⟩ (fun r3 w1 H locs hw hP hD hS => ?_)
      obtain ⟨hrr, rfl⟩ := hw
      have hrr := hrr.symm
      subst hrr
      have hP : va_P D vwCl [(r1, .inr (5, [.ref r2, .ref r3, .int vzr, .int vwr, .int vhr, .int vkr])), (r2, .inl (cI, 144, .inl pxr)), (r3, .inl (cI, 9, .inl mdr)), (a1, .inr (5, [.ref a2, .ref a3, .int vz, .int vw, .int vh, .int vk])), (a2, .inl (cI, 144, .inl px)), (a3, .inl (cI, 9, .inl md)), (f0, .inr (8, [.ref a1, .ref c1, .ref r1, .ref y1, .ref k1, .ref j1, .int ibc, .int ilc, .int igl, .int ibk, .int ifa, .int ibd]))] H := hP
      have hD : va_D A [(r1, .inr (5, [.ref r2, .ref r3, .int vzr, .int vwr, .int vhr, .int vkr])), (r2, .inl (cI, 144, .inl pxr)), (r3, .inl (cI, 9, .inl mdr)), (a1, .inr (5, [.ref a2, .ref a3, .int vz, .int vw, .int vh, .int vk])), (a2, .inl (cI, 144, .inl px)), (a3, .inl (cI, 9, .inl md)), (f0, .inr (8, [.ref a1, .ref c1, .ref r1, .ref y1, .ref k1, .ref j1, .int ibc, .int ilc, .int igl, .int ibk, .int ifa, .int ibd]))] := hD
      refine lv_astore_n (lv' := [(3, .ref r1), (0, .ref f0), (1, .int 2), (2, .int 0)]) hx hb d_TileForge_apart_27 rfl hl (by decide) rfl (fun ls hl => ?_)
      refine lv_aload_n hx hb d_TileForge_apart_28 rfl (lv_at hl 1 rfl) ?_
      refine lv_iload_n hx hb d_TileForge_apart_29 rfl (lv_at hl 3 rfl) ?_
      refine cs_Vr (As := [.int 0]) (rest := []) (wr := [(r1, .inr (5, [.ref r2, .ref r3, .int vzr, .int vwr, .int vhr, .int vkr])), (r2, .inl (cI, 144, .inl pxr)), (r3, .inl (cI, 9, .inl mdr)), (a1, .inr (5, [.ref a2, .ref a3, .int vz, .int vw, .int vh, .int vk])), (a2, .inl (cI, 144, .inl px)), (a3, .inl (cI, 9, .inl md))]) ⟨hx, hb, hml, hown, hts⟩ (c_tf_choose0 l hcI f0 a1 c1 r1 y1 k1 j1 ibc ilc igl ibk ifa ibd) (cwV 1 hts (cs_gV mw_520 mw_521 mw_522 mw_139 mw_472) rfl rfl rfl ⟨rfl, hd_TileForge_choose⟩ ⟨Nat.le_of_ble_eq_true rfl, Nat.le_of_ble_eq_true rfl⟩) hN hK hP hD hS hA [6] [0, 1, 2, 3, 4, 5] rfl rfl rfl rfl (by decide) (ci := 8) rfl rfl rfl rfl rfl hl.1 (Nat.le_of_ble_eq_true rfl) d_TileForge_apart_30 ⟨Nat.le_of_ble_eq_true rfl, Nat.le_of_ble_eq_true rfl⟩ (fun r4 w1 H locs hw hP hD hS => ?_)
      obtain ⟨hrr, rfl⟩ := hw
      have hrr := hrr.symm
      subst hrr
      have hP : va_P D vwCl [(r1, .inr (5, [.ref r2, .ref r3, .int vzr, .int vwr, .int vhr, .int vkr])), (r2, .inl (cI, 144, .inl pxr)), (r3, .inl (cI, 9, .inl mdr)), (a1, .inr (5, [.ref a2, .ref a3, .int vz, .int vw, .int vh, .int vk])), (a2, .inl (cI, 144, .inl px)), (a3, .inl (cI, 9, .inl md)), (f0, .inr (8, [.ref a1, .ref c1, .ref r1, .ref y1, .ref k1, .ref j1, .int ibc, .int ilc, .int igl, .int ibk, .int ifa, .int ibd]))] H := hP
      have hD : va_D A [(r1, .inr (5, [.ref r2, .ref r3, .int vzr, .int vwr, .int vhr, .int vkr])), (r2, .inl (cI, 144, .inl pxr)), (r3, .inl (cI, 9, .inl mdr)), (a1, .inr (5, [.ref a2, .ref a3, .int vz, .int vw, .int vh, .int vk])), (a2, .inl (cI, 144, .inl px)), (a3, .inl (cI, 9, .inl md)), (f0, .inr (8, [.ref a1, .ref c1, .ref r1, .ref y1, .ref k1, .ref j1, .int ibc, .int ilc, .int igl, .int ibk, .int ifa, .int ibd]))] := hD
      refine lv_astore (lv' := [(4, .ref a1), (3, .ref r1), (0, .ref f0), (1, .int 2), (2, .int 0)]) hx hb d_TileForge_apart_33 hl (by decide) rfl (fun ls hl => ?_)
      refine lv_aload_n hx hb d_TileForge_apart_35 rfl (lv_at hl 1 rfl) ?_
      refine va_get (D := D) (ci := 5) (v := .int vzr) (C := "TileForge$Picture") (T := T_Picture) (N := 6) hx hb hts (cs_in in_Picture) hown hK hP 0 rfl rfl 2 (by decide) (hts _ (cs_m mw_523)) (fun _ h9 => h9) rfl d_TileForge_apart_36 ?_
      refine lv_if_eq (tgt := 50) hx hb d_TileForge_apart_39 (by decide) (fun c_39 => ?_) (fun c_39 => ?_)
      · exact absurd c_39 hm1
      · refine lv_aload hx hb d_TileForge_apart_42 (lv_at hl 0 rfl) ?_
        refine va_get (D := D) (ci := 5) (v := .int vz) (C := "TileForge$Picture") (T := T_Picture) (N := 6) hx hb hts (cs_in in_Picture) hown hK hP 3 rfl rfl 2 (by decide) (hts _ (cs_m mw_523)) (fun _ h9 => h9) rfl d_TileForge_apart_44 ?_
        refine lv_if_ne (tgt := 58) hx hb d_TileForge_apart_47 (by decide) (fun c_47 => ?_) (fun c_47 => ?_)
        · refine lv_aload_n hx hb d_TileForge_apart_58 rfl (lv_at hl 1 rfl) ?_
          refine va_get (D := D) (ci := 5) (v := .int vwr) (C := "TileForge$Picture") (T := T_Picture) (N := 6) hx hb hts (cs_in in_Picture) hown hK hP 0 rfl rfl 3 (by decide) (hts _ (cs_m mw_478)) (fun _ h9 => h9) rfl d_TileForge_apart_59 ?_
          refine lv_aload hx hb d_TileForge_apart_62 (lv_at hl 0 rfl) ?_
          refine va_get (D := D) (ci := 5) (v := .int vw) (C := "TileForge$Picture") (T := T_Picture) (N := 6) hx hb hts (cs_in in_Picture) hown hK hP 3 rfl rfl 3 (by decide) (hts _ (cs_m mw_478)) (fun _ h9 => h9) rfl d_TileForge_apart_64 ?_
          refine lv_icmp_ne (tgt := 82) hx hb d_TileForge_apart_67 (by decide) (fun c_67 => ?_) (fun c_67 => ?_)
          · have hP := hP.sub (ws' := [(f0, .inr (8, [.ref a1, .ref c1, .ref r1, .ref y1, .ref k1, .ref j1, .int ibc, .int ilc, .int igl, .int ibk, .int ifa, .int ibd])), (r1, .inr (5, [.ref r2, .ref r3, .int vzr, .int vwr, .int vhr, .int vkr])), (r2, .inl (cI, 144, .inl pxr)), (r3, .inl (cI, 9, .inl mdr)), (a1, .inr (5, [.ref a2, .ref a3, .int vz, .int vw, .int vh, .int vk])), (a2, .inl (cI, 144, .inl px)), (a3, .inl (cI, 9, .inl md))]) [6, 0, 1, 2, 3, 4, 5] rfl
            have hD := hD.sub (ws' := [(f0, .inr (8, [.ref a1, .ref c1, .ref r1, .ref y1, .ref k1, .ref j1, .int ibc, .int ilc, .int igl, .int ibk, .int ifa, .int ibd])), (r1, .inr (5, [.ref r2, .ref r3, .int vzr, .int vwr, .int vhr, .int vkr])), (r2, .inl (cI, 144, .inl pxr)), (r3, .inl (cI, 9, .inl mdr)), (a1, .inr (5, [.ref a2, .ref a3, .int vz, .int vw, .int vh, .int vk])), (a2, .inl (cI, 144, .inl px)), (a3, .inl (cI, 9, .inl md))]) [6, 0, 1, 2, 3, 4, 5] (by decide) rfl
            exact cx_thr (ix := 116) (ic := 118) (E := "java/lang/UnsupportedOperationException") (post := (q_tf_apartD20 cI f0 a1 c1 r1 y1 k1 j1 ibc ilc igl ibk ifa ibd r2 r3 pxr mdr vzr vwr vhr vkr a2 a3 px md vz vw vh vk)) hx hb hst (hl.1.trans hml.symm) B.named hts hown hX hP0 hAe mw_573 mw_574 mw_575 oa_UOE fi_UOE hK hP hD hS hlocks (Nat.le_of_ble_eq_true rfl) (Nat.le_of_ble_eq_true rfl) (Nat.le_of_ble_eq_true rfl) (Nat.le_of_ble_eq_true rfl) (Nat.le_of_ble_eq_true rfl) (Nat.le_of_ble_eq_true rfl) d_TileForge_apart_82 d_TileForge_apart_85 d_TileForge_apart_86 d_TileForge_apart_89  (show _ = _ from rfl)
          · refine lv_aload_n hx hb d_TileForge_apart_70 rfl (lv_at hl 1 rfl) ?_
            refine va_get (D := D) (ci := 5) (v := .int vhr) (C := "TileForge$Picture") (T := T_Picture) (N := 6) hx hb hts (cs_in in_Picture) hown hK hP 0 rfl rfl 4 (by decide) (hts _ (cs_m mw_477)) (fun _ h9 => h9) rfl d_TileForge_apart_71 ?_
            refine lv_aload hx hb d_TileForge_apart_74 (lv_at hl 0 rfl) ?_
            refine va_get (D := D) (ci := 5) (v := .int vh) (C := "TileForge$Picture") (T := T_Picture) (N := 6) hx hb hts (cs_in in_Picture) hown hK hP 3 rfl rfl 4 (by decide) (hts _ (cs_m mw_477)) (fun _ h9 => h9) rfl d_TileForge_apart_76 ?_
            refine lv_icmp_eq (tgt := 90) hx hb d_TileForge_apart_79 (by decide) (fun c_79 => ?_) (fun c_79 => ?_)
            · exact absurd (⟨c_67, c_79⟩ : vwr = vw ∧ vhr = vh) hbad
            · have hP := hP.sub (ws' := [(f0, .inr (8, [.ref a1, .ref c1, .ref r1, .ref y1, .ref k1, .ref j1, .int ibc, .int ilc, .int igl, .int ibk, .int ifa, .int ibd])), (r1, .inr (5, [.ref r2, .ref r3, .int vzr, .int vwr, .int vhr, .int vkr])), (r2, .inl (cI, 144, .inl pxr)), (r3, .inl (cI, 9, .inl mdr)), (a1, .inr (5, [.ref a2, .ref a3, .int vz, .int vw, .int vh, .int vk])), (a2, .inl (cI, 144, .inl px)), (a3, .inl (cI, 9, .inl md))]) [6, 0, 1, 2, 3, 4, 5] rfl
              have hD := hD.sub (ws' := [(f0, .inr (8, [.ref a1, .ref c1, .ref r1, .ref y1, .ref k1, .ref j1, .int ibc, .int ilc, .int igl, .int ibk, .int ifa, .int ibd])), (r1, .inr (5, [.ref r2, .ref r3, .int vzr, .int vwr, .int vhr, .int vkr])), (r2, .inl (cI, 144, .inl pxr)), (r3, .inl (cI, 9, .inl mdr)), (a1, .inr (5, [.ref a2, .ref a3, .int vz, .int vw, .int vh, .int vk])), (a2, .inl (cI, 144, .inl px)), (a3, .inl (cI, 9, .inl md))]) [6, 0, 1, 2, 3, 4, 5] (by decide) rfl
              exact cx_thr (ix := 116) (ic := 118) (E := "java/lang/UnsupportedOperationException") (post := (q_tf_apartD20 cI f0 a1 c1 r1 y1 k1 j1 ibc ilc igl ibk ifa ibd r2 r3 pxr mdr vzr vwr vhr vkr a2 a3 px md vz vw vh vk)) hx hb hst (hl.1.trans hml.symm) B.named hts hown hX hP0 hAe mw_573 mw_574 mw_575 oa_UOE fi_UOE hK hP hD hS hlocks (Nat.le_of_ble_eq_true rfl) (Nat.le_of_ble_eq_true rfl) (Nat.le_of_ble_eq_true rfl) (Nat.le_of_ble_eq_true rfl) (Nat.le_of_ble_eq_true rfl) (Nat.le_of_ble_eq_true rfl) d_TileForge_apart_82 d_TileForge_apart_85 d_TileForge_apart_86 d_TileForge_apart_89  (show _ = _ from rfl)
        · exact absurd c_47 hm2
    · have c_11 := cs_b0 c_11
      exact absurd (by decide) c_11
def q_tf_apartC21 (cI : ClassId) (f0 : Nat) (a1 : Nat) (c1 : Nat) (r1 : Nat) (y1 : Nat) (k1 : Nat) (j1 : Nat) (ibc : Int32) (ilc : Int32) (igl : Int32) (ibk : Int32) (ifa : Int32) (ibd : Int32) (r2 : Nat) (r3 : Nat) (pxr : Nat → Int32) (mdr : Nat → Int32) (vzr : Int32) (vwr : Int32) (vhr : Int32) (vkr : Int32) (c2 : Nat) (c3 : Nat) (pxc : Nat → Int32) (mdc : Nat → Int32) (vzc : Int32) (vwc : Int32) (vhc : Int32) (vkc : Int32) : va_W → Prop := fun ww => ww = [(f0, .inr (8, [.ref a1, .ref c1, .ref r1, .ref y1, .ref k1, .ref j1, .int ibc, .int ilc, .int igl, .int ibk, .int ifa, .int ibd])), (r1, .inr (5, [.ref r2, .ref r3, .int vzr, .int vwr, .int vhr, .int vkr])), (r2, .inl (cI, 144, .inl pxr)), (r3, .inl (cI, 9, .inl mdr)), (c1, .inr (5, [.ref c2, .ref c3, .int vzc, .int vwc, .int vhc, .int vkc])), (c2, .inl (cI, 144, .inl pxc)), (c3, .inl (cI, 9, .inl mdc))]
set_option maxHeartbeats 4000000 in
set_option maxRecDepth 100000 in
theorem c_tf_apartC21 (l : Launch) (hst : l.stackTraces = false) {D : va_G} {tys : List (ClassId × FieldType)} {cI : ClassId} (hcI : tys[0]? = some (cI, .int)) (f0 : Nat) (a1 : Nat) (c1 : Nat) (r1 : Nat) (y1 : Nat) (k1 : Nat) (j1 : Nat) (ibc : Int32) (ilc : Int32) (igl : Int32) (ibk : Int32) (ifa : Int32) (ibd : Int32) (r2 : Nat) (r3 : Nat) (pxr : Nat → Int32) (mdr : Nat → Int32) (vzr : Int32) (vwr : Int32) (vhr : Int32) (vkr : Int32) (c2 : Nat) (c3 : Nat) (pxc : Nat → Int32) (mdc : Nat → Int32) (vzc : Int32) (vwc : Int32) (vhc : Int32) (vkc : Int32) (hbad : ¬ (¬ vzr = 0 ∧ ¬ vzc = 0)) : CxE l D vwCl tys y_TileForge_apart ws_TileForge_apart ({ frames := 6, cells := 1, slots := 6, locals := 81 } : Room) [.ref f0, .int 2, .int 1] [(f0, .inr (8, [.ref a1, .ref c1, .ref r1, .ref y1, .ref k1, .ref j1, .int ibc, .int ilc, .int igl, .int ibk, .int ifa, .int ibd])), (r1, .inr (5, [.ref r2, .ref r3, .int vzr, .int vwr, .int vhr, .int vkr])), (r2, .inl (cI, 144, .inl pxr)), (r3, .inl (cI, 9, .inl mdr)), (c1, .inr (5, [.ref c2, .ref c3, .int vzc, .int vwc, .int vhc, .int vkc])), (c2, .inl (cI, 144, .inl pxc)), (c3, .inl (cI, 9, .inl mdc))] (q_tf_apartC21 cI f0 a1 c1 r1 y1 k1 j1 ibc ilc igl ibk ifa ibd r2 r3 pxr mdr vzr vwr vhr vkr c2 c3 pxc mdc vzc vwc vhc vkc) "java/lang/IllegalStateException" 1 6 := by
  intro sz
  refine cx_ofW (cc := prog_1_method_11_code) (maxL := 5) (ret := (some .double)) (by decide) rfl ?_
  intro p e s m args below meth c s₁ B hml hv
  obtain ⟨rfl, ⟨hsz, hP, hK, hD0, hN⟩, hX⟩ := hv
  have hx := B.exec
  have hb := B.bytes
  have hr := B.returns
  have hts := atoms_spec (ws := ws_TileForge_apart) B.pre
  have hown : s.vm.findClass "TileForge" = some m.cls := findClass_of_methodNamed B.named
  have hlocks := B.notSynchronized
  subst hsz
  have hD := hD0.self (sz := s.heap.size)
  generalize hAe : va_A [(f0, .inr (8, [.ref a1, .ref c1, .ref r1, .ref y1, .ref k1, .ref j1, .int ibc, .int ilc, .int igl, .int ibk, .int ifa, .int ibd])), (r1, .inr (5, [.ref r2, .ref r3, .int vzr, .int vwr, .int vhr, .int vkr])), (r2, .inl (cI, 144, .inl pxr)), (r3, .inl (cI, 9, .inl mdr)), (c1, .inr (5, [.ref c2, .ref c3, .int vzc, .int vwc, .int vhc, .int vkc])), (c2, .inl (cI, 144, .inl pxc)), (c3, .inl (cI, 9, .inl mdc))] s.heap.size = A at hD ⊢
  have hA : ∀ q : Nat, s.heap.size ≤ q → A q := fun q h => by rw [← hAe]; exact Or.inr h
  have hS : va_S A s.heap s.heap [] := va_S.rf
  have hP : va_P D vwCl [(f0, .inr (8, [.ref a1, .ref c1, .ref r1, .ref y1, .ref k1, .ref j1, .int ibc, .int ilc, .int igl, .int ibk, .int ifa, .int ibd])), (r1, .inr (5, [.ref r2, .ref r3, .int vzr, .int vwr, .int vhr, .int vkr])), (r2, .inl (cI, 144, .inl pxr)), (r3, .inl (cI, 9, .inl mdr)), (c1, .inr (5, [.ref c2, .ref c3, .int vzc, .int vwc, .int vhc, .int vkc])), (c2, .inl (cI, 144, .inl pxc)), (c3, .inl (cI, 9, .inl mdc))] s.heap := hP
  have hP0 := hP
  have hl := lv_entry ([.ref f0, .int 2, .int 1]) (n := 5) (Nat.le_of_ble_eq_true rfl)
  rw [lg_entry_eq]
  generalize (lg_sl ([.ref f0, .int 2, .int 1]) ++ List.replicate (5 - (lg_sl ([.ref f0, .int 2, .int 1])).length) Slot.unset).toArray = ls at hl ⊢
  have hl : lv_has ls 5 [(0, .ref f0), (1, .int 2), (2, .int 1)] := hl
  refine lv_iload_n hx hb d_TileForge_apart_0 rfl (lv_at hl 1 rfl) ?_
  refine cs_Si (As := [.int 2]) (rest := []) (wr := [(f0, .inr (8, [.ref a1, .ref c1, .ref r1, .ref y1, .ref k1, .ref j1, .int ibc, .int ilc, .int igl, .int ibk, .int ifa, .int ibd])), (r1, .inr (5, [.ref r2, .ref r3, .int vzr, .int vwr, .int vhr, .int vkr])), (r2, .inl (cI, 144, .inl pxr)), (r3, .inl (cI, 9, .inl mdr)), (c1, .inr (5, [.ref c2, .ref c3, .int vzc, .int vwc, .int vhc, .int vkc])), (c2, .inl (cI, 144, .inl pxc)), (c3, .inl (cI, 9, .inl mdc))]) ⟨hx, hb, hml, hown, hts⟩ (c_isChoice l hcI 2) (va_cwS 1 hts (cs_gS mw_518 mw_519 mw_139 mw_77) rfl rfl rfl hd_TileForge_isChoice ⟨Nat.le_of_ble_eq_true rfl, Nat.le_of_ble_eq_true rfl⟩) hN hK hP hD hS hA [] [0, 1, 2, 3, 4, 5, 6] rfl rfl rfl rfl (by decide) rfl rfl hl.1 (Nat.le_of_ble_eq_true rfl) d_TileForge_apart_1 ⟨Nat.le_of_ble_eq_true rfl, Nat.le_of_ble_eq_true rfl⟩ (fun r1 w1 H locs hw hP hD hS => ?_)
  obtain ⟨rfl, rfl⟩ := hw
  have hP : va_P D vwCl [(f0, .inr (8, [.ref a1, .ref c1, .ref r1, .ref y1, .ref k1, .ref j1, .int ibc, .int ilc, .int igl, .int ibk, .int ifa, .int ibd])), (r1, .inr (5, [.ref r2, .ref r3, .int vzr, .int vwr, .int vhr, .int vkr])), (r2, .inl (cI, 144, .inl pxr)), (r3, .inl (cI, 9, .inl mdr)), (c1, .inr (5, [.ref c2, .ref c3, .int vzc, .int vwc, .int vhc, .int vkc])), (c2, .inl (cI, 144, .inl pxc)), (c3, .inl (cI, 9, .inl mdc))] H := hP
  have hD : va_D A [(f0, .inr (8, [.ref a1, .ref c1, .ref r1, .ref y1, .ref k1, .ref j1, .int ibc, .int ilc, .int igl, .int ibk, .int ifa, .int ibd])), (r1, .inr (5, [.ref r2, .ref r3, .int vzr, .int vwr, .int vhr, .int vkr])), (r2, .inl (cI, 144, .inl pxr)), (r3, .inl (cI, 9, .inl mdr)), (c1, .inr (5, [.ref c2, .ref c3, .int vzc, .int vwc, .int vhc, .int vkc])), (c2, .inl (cI, 144, .inl pxc)), (c3, .inl (cI, 9, .inl mdc))] := hD
  refine lv_if_eq (tgt := 14) hx hb d_TileForge_apart_4 (by decide) (fun c_4 => ?_) (fun c_4 => ?_)
  · have c_4 := cs_b0 c_4
    exact absurd (by decide) c_4
  · have c_4 := cs_b1 c_4
    refine lv_iload_n hx hb d_TileForge_apart_7 rfl (lv_at hl 2 rfl) ?_
    refine cs_Si (As := [.int 1]) (rest := []) (wr := [(f0, .inr (8, [.ref a1, .ref c1, .ref r1, .ref y1, .ref k1, .ref j1, .int ibc, .int ilc, .int igl, .int ibk, .int ifa, .int ibd])), (r1, .inr (5, [.ref r2, .ref r3, .int vzr, .int vwr, .int vhr, .int vkr])), (r2, .inl (cI, 144, .inl pxr)), (r3, .inl (cI, 9, .inl mdr)), (c1, .inr (5, [.ref c2, .ref c3, .int vzc, .int vwc, .int vhc, .int vkc])), (c2, .inl (cI, 144, .inl pxc)), (c3, .inl (cI, 9, .inl mdc))]) ⟨hx, hb, hml, hown, hts⟩ (c_isChoice l hcI 1) (va_cwS 1 hts (cs_gS mw_518 mw_519 mw_139 mw_77) rfl rfl rfl hd_TileForge_isChoice ⟨Nat.le_of_ble_eq_true rfl, Nat.le_of_ble_eq_true rfl⟩) hN hK hP hD hS hA [] [0, 1, 2, 3, 4, 5, 6] rfl rfl rfl rfl (by decide) rfl rfl hl.1 (Nat.le_of_ble_eq_true rfl) d_TileForge_apart_8 ⟨Nat.le_of_ble_eq_true rfl, Nat.le_of_ble_eq_true rfl⟩ (fun r2 w1 H locs hw hP hD hS => ?_)
    obtain ⟨rfl, rfl⟩ := hw
    have hP : va_P D vwCl [(f0, .inr (8, [.ref a1, .ref c1, .ref r1, .ref y1, .ref k1, .ref j1, .int ibc, .int ilc, .int igl, .int ibk, .int ifa, .int ibd])), (r1, .inr (5, [.ref r2, .ref r3, .int vzr, .int vwr, .int vhr, .int vkr])), (r2, .inl (cI, 144, .inl pxr)), (r3, .inl (cI, 9, .inl mdr)), (c1, .inr (5, [.ref c2, .ref c3, .int vzc, .int vwc, .int vhc, .int vkc])), (c2, .inl (cI, 144, .inl pxc)), (c3, .inl (cI, 9, .inl mdc))] H := hP
    have hD : va_D A [(f0, .inr (8, [.ref a1, .ref c1, .ref r1, .ref y1, .ref k1, .ref j1, .int ibc, .int ilc, .int igl, .int ibk, .int ifa, .int ibd])), (r1, .inr (5, [.ref r2, .ref r3, .int vzr, .int vwr, .int vhr, .int vkr])), (r2, .inl (cI, 144, .inl pxr)), (r3, .inl (cI, 9, .inl mdr)), (c1, .inr (5, [.ref c2, .ref c3, .int vzc, .int vwc, .int vhc, .int vkc])), (c2, .inl (cI, 144, .inl pxc)), (c3, .inl (cI, 9, .inl mdc))] := hD
    refine lv_if_ne (tgt := 22) hx hb d_TileForge_apart_11 (by decide) (fun c_11 => ?_) (fun c_11 => ?_)
    · have c_11 := cs_b1 c_11
      refine lv_aload_n hx hb d_TileForge_apart_22 rfl (lv_at hl 0 rfl) ?_
      refine lv_iload_n hx hb d_TileForge_apart_23 rfl (lv_at hl 1 rfl) ?_
      refine cs_Vr (As := [.int 2]) (rest := []) (wr := [(r1, .inr (5, [.ref r2, .ref r3, .int vzr, .int vwr, .int vhr, .int vkr])), (r2, .inl (cI, 144, .inl pxr)), (r3, .inl (cI, 9, .inl mdr)), (c1, .inr (5, [.ref c2, .ref c3, .int vzc, .int vwc, .int vhc, .int vkc])), (c2, .inl (cI, 144, .inl pxc)), (c3, .inl (cI, 9, .inl mdc))]) ⟨hx, hb, hml, hown, hts⟩ (c_tf_choose2 l hcI f0 a1 c1 r1 y1 k1 j1 ibc ilc igl ibk ifa ibd) (cwV 1 hts (cs_gV mw_520 mw_521 mw_522 mw_139 mw_472) rfl rfl rfl ⟨rfl, hd_TileForge_choose⟩ ⟨Nat.le_of_ble_eq_true rfl, Nat.le_of_ble_eq_true rfl⟩) hN hK hP hD hS hA [0] [1, 2, 3, 4, 5, 6] rfl rfl rfl rfl (by decide) (ci := 8) rfl rfl rfl rfl rfl hl.1 (Nat.le_of_ble_eq_true rfl) d_TileForge_apart_24 ⟨Nat.le_of_ble_eq_true rfl, Nat.le_of_ble_eq_true rfl⟩ (fun r3 w1 H locs hw hP hD hS => ?_)
      obtain ⟨hrr, rfl⟩ := hw
      have hrr := hrr.symm
      subst hrr
      have hP : va_P D vwCl [(r1, .inr (5, [.ref r2, .ref r3, .int vzr, .int vwr, .int vhr, .int vkr])), (r2, .inl (cI, 144, .inl pxr)), (r3, .inl (cI, 9, .inl mdr)), (c1, .inr (5, [.ref c2, .ref c3, .int vzc, .int vwc, .int vhc, .int vkc])), (c2, .inl (cI, 144, .inl pxc)), (c3, .inl (cI, 9, .inl mdc)), (f0, .inr (8, [.ref a1, .ref c1, .ref r1, .ref y1, .ref k1, .ref j1, .int ibc, .int ilc, .int igl, .int ibk, .int ifa, .int ibd]))] H := hP
      have hD : va_D A [(r1, .inr (5, [.ref r2, .ref r3, .int vzr, .int vwr, .int vhr, .int vkr])), (r2, .inl (cI, 144, .inl pxr)), (r3, .inl (cI, 9, .inl mdr)), (c1, .inr (5, [.ref c2, .ref c3, .int vzc, .int vwc, .int vhc, .int vkc])), (c2, .inl (cI, 144, .inl pxc)), (c3, .inl (cI, 9, .inl mdc)), (f0, .inr (8, [.ref a1, .ref c1, .ref r1, .ref y1, .ref k1, .ref j1, .int ibc, .int ilc, .int igl, .int ibk, .int ifa, .int ibd]))] := hD
      refine lv_astore_n (lv' := [(3, .ref r1), (0, .ref f0), (1, .int 2), (2, .int 1)]) hx hb d_TileForge_apart_27 rfl hl (by decide) rfl (fun ls hl => ?_)
      refine lv_aload_n hx hb d_TileForge_apart_28 rfl (lv_at hl 1 rfl) ?_
      refine lv_iload_n hx hb d_TileForge_apart_29 rfl (lv_at hl 3 rfl) ?_
      refine cs_Vr (As := [.int 1]) (rest := []) (wr := [(r1, .inr (5, [.ref r2, .ref r3, .int vzr, .int vwr, .int vhr, .int vkr])), (r2, .inl (cI, 144, .inl pxr)), (r3, .inl (cI, 9, .inl mdr)), (c1, .inr (5, [.ref c2, .ref c3, .int vzc, .int vwc, .int vhc, .int vkc])), (c2, .inl (cI, 144, .inl pxc)), (c3, .inl (cI, 9, .inl mdc))]) ⟨hx, hb, hml, hown, hts⟩ (c_tf_choose1 l hcI f0 a1 c1 r1 y1 k1 j1 ibc ilc igl ibk ifa ibd) (cwV 1 hts (cs_gV mw_520 mw_521 mw_522 mw_139 mw_472) rfl rfl rfl ⟨rfl, hd_TileForge_choose⟩ ⟨Nat.le_of_ble_eq_true rfl, Nat.le_of_ble_eq_true rfl⟩) hN hK hP hD hS hA [6] [0, 1, 2, 3, 4, 5] rfl rfl rfl rfl (by decide) (ci := 8) rfl rfl rfl rfl rfl hl.1 (Nat.le_of_ble_eq_true rfl) d_TileForge_apart_30 ⟨Nat.le_of_ble_eq_true rfl, Nat.le_of_ble_eq_true rfl⟩ (fun r4 w1 H locs hw hP hD hS => ?_)
      obtain ⟨hrr, rfl⟩ := hw
      have hrr := hrr.symm
      subst hrr
      have hP : va_P D vwCl [(r1, .inr (5, [.ref r2, .ref r3, .int vzr, .int vwr, .int vhr, .int vkr])), (r2, .inl (cI, 144, .inl pxr)), (r3, .inl (cI, 9, .inl mdr)), (c1, .inr (5, [.ref c2, .ref c3, .int vzc, .int vwc, .int vhc, .int vkc])), (c2, .inl (cI, 144, .inl pxc)), (c3, .inl (cI, 9, .inl mdc)), (f0, .inr (8, [.ref a1, .ref c1, .ref r1, .ref y1, .ref k1, .ref j1, .int ibc, .int ilc, .int igl, .int ibk, .int ifa, .int ibd]))] H := hP
      have hD : va_D A [(r1, .inr (5, [.ref r2, .ref r3, .int vzr, .int vwr, .int vhr, .int vkr])), (r2, .inl (cI, 144, .inl pxr)), (r3, .inl (cI, 9, .inl mdr)), (c1, .inr (5, [.ref c2, .ref c3, .int vzc, .int vwc, .int vhc, .int vkc])), (c2, .inl (cI, 144, .inl pxc)), (c3, .inl (cI, 9, .inl mdc)), (f0, .inr (8, [.ref a1, .ref c1, .ref r1, .ref y1, .ref k1, .ref j1, .int ibc, .int ilc, .int igl, .int ibk, .int ifa, .int ibd]))] := hD
      refine lv_astore (lv' := [(4, .ref c1), (3, .ref r1), (0, .ref f0), (1, .int 2), (2, .int 1)]) hx hb d_TileForge_apart_33 hl (by decide) rfl (fun ls hl => ?_)
      refine lv_aload_n hx hb d_TileForge_apart_35 rfl (lv_at hl 1 rfl) ?_
      refine va_get (D := D) (ci := 5) (v := .int vzr) (C := "TileForge$Picture") (T := T_Picture) (N := 6) hx hb hts (cs_in in_Picture) hown hK hP 0 rfl rfl 2 (by decide) (hts _ (cs_m mw_523)) (fun _ h9 => h9) rfl d_TileForge_apart_36 ?_
      refine lv_if_eq (tgt := 50) hx hb d_TileForge_apart_39 (by decide) (fun c_39 => ?_) (fun c_39 => ?_)
      · have hP := hP.sub (ws' := [(f0, .inr (8, [.ref a1, .ref c1, .ref r1, .ref y1, .ref k1, .ref j1, .int ibc, .int ilc, .int igl, .int ibk, .int ifa, .int ibd])), (r1, .inr (5, [.ref r2, .ref r3, .int vzr, .int vwr, .int vhr, .int vkr])), (r2, .inl (cI, 144, .inl pxr)), (r3, .inl (cI, 9, .inl mdr)), (c1, .inr (5, [.ref c2, .ref c3, .int vzc, .int vwc, .int vhc, .int vkc])), (c2, .inl (cI, 144, .inl pxc)), (c3, .inl (cI, 9, .inl mdc))]) [6, 0, 1, 2, 3, 4, 5] rfl
        have hD := hD.sub (ws' := [(f0, .inr (8, [.ref a1, .ref c1, .ref r1, .ref y1, .ref k1, .ref j1, .int ibc, .int ilc, .int igl, .int ibk, .int ifa, .int ibd])), (r1, .inr (5, [.ref r2, .ref r3, .int vzr, .int vwr, .int vhr, .int vkr])), (r2, .inl (cI, 144, .inl pxr)), (r3, .inl (cI, 9, .inl mdr)), (c1, .inr (5, [.ref c2, .ref c3, .int vzc, .int vwc, .int vhc, .int vkc])), (c2, .inl (cI, 144, .inl pxc)), (c3, .inl (cI, 9, .inl mdc))]) [6, 0, 1, 2, 3, 4, 5] (by decide) rfl
        exact cx_thr (ix := 103) (ic := 105) (E := "java/lang/IllegalStateException") (post := (q_tf_apartC21 cI f0 a1 c1 r1 y1 k1 j1 ibc ilc igl ibk ifa ibd r2 r3 pxr mdr vzr vwr vhr vkr c2 c3 pxc mdc vzc vwc vhc vkc)) hx hb hst (hl.1.trans hml.symm) B.named hts hown hX hP0 hAe mw_576 mw_577 mw_578 oa_ISE fi_ISE hK hP hD hS hlocks (Nat.le_of_ble_eq_true rfl) (Nat.le_of_ble_eq_true rfl) (Nat.le_of_ble_eq_true rfl) (Nat.le_of_ble_eq_true rfl) (Nat.le_of_ble_eq_true rfl) (Nat.le_of_ble_eq_true rfl) d_TileForge_apart_50 d_TileForge_apart_53 d_TileForge_apart_54 d_TileForge_apart_57  (show _ = _ from rfl)
      · refine lv_aload hx hb d_TileForge_apart_42 (lv_at hl 0 rfl) ?_
        refine va_get (D := D) (ci := 5) (v := .int vzc) (C := "TileForge$Picture") (T := T_Picture) (N := 6) hx hb hts (cs_in in_Picture) hown hK hP 3 rfl rfl 2 (by decide) (hts _ (cs_m mw_523)) (fun _ h9 => h9) rfl d_TileForge_apart_44 ?_
        refine lv_if_ne (tgt := 58) hx hb d_TileForge_apart_47 (by decide) (fun c_47 => ?_) (fun c_47 => ?_)
        · exact absurd (⟨c_39, c_47⟩ : ¬ vzr = 0 ∧ ¬ vzc = 0) hbad
        · have hP := hP.sub (ws' := [(f0, .inr (8, [.ref a1, .ref c1, .ref r1, .ref y1, .ref k1, .ref j1, .int ibc, .int ilc, .int igl, .int ibk, .int ifa, .int ibd])), (r1, .inr (5, [.ref r2, .ref r3, .int vzr, .int vwr, .int vhr, .int vkr])), (r2, .inl (cI, 144, .inl pxr)), (r3, .inl (cI, 9, .inl mdr)), (c1, .inr (5, [.ref c2, .ref c3, .int vzc, .int vwc, .int vhc, .int vkc])), (c2, .inl (cI, 144, .inl pxc)), (c3, .inl (cI, 9, .inl mdc))]) [6, 0, 1, 2, 3, 4, 5] rfl
          have hD := hD.sub (ws' := [(f0, .inr (8, [.ref a1, .ref c1, .ref r1, .ref y1, .ref k1, .ref j1, .int ibc, .int ilc, .int igl, .int ibk, .int ifa, .int ibd])), (r1, .inr (5, [.ref r2, .ref r3, .int vzr, .int vwr, .int vhr, .int vkr])), (r2, .inl (cI, 144, .inl pxr)), (r3, .inl (cI, 9, .inl mdr)), (c1, .inr (5, [.ref c2, .ref c3, .int vzc, .int vwc, .int vhc, .int vkc])), (c2, .inl (cI, 144, .inl pxc)), (c3, .inl (cI, 9, .inl mdc))]) [6, 0, 1, 2, 3, 4, 5] (by decide) rfl
          exact cx_thr (ix := 103) (ic := 105) (E := "java/lang/IllegalStateException") (post := (q_tf_apartC21 cI f0 a1 c1 r1 y1 k1 j1 ibc ilc igl ibk ifa ibd r2 r3 pxr mdr vzr vwr vhr vkr c2 c3 pxc mdc vzc vwc vhc vkc)) hx hb hst (hl.1.trans hml.symm) B.named hts hown hX hP0 hAe mw_576 mw_577 mw_578 oa_ISE fi_ISE hK hP hD hS hlocks (Nat.le_of_ble_eq_true rfl) (Nat.le_of_ble_eq_true rfl) (Nat.le_of_ble_eq_true rfl) (Nat.le_of_ble_eq_true rfl) (Nat.le_of_ble_eq_true rfl) (Nat.le_of_ble_eq_true rfl) d_TileForge_apart_50 d_TileForge_apart_53 d_TileForge_apart_54 d_TileForge_apart_57  (show _ = _ from rfl)
    · have c_11 := cs_b0 c_11
      exact absurd (by decide) c_11
def q_tf_apartD21 (cI : ClassId) (f0 : Nat) (a1 : Nat) (c1 : Nat) (r1 : Nat) (y1 : Nat) (k1 : Nat) (j1 : Nat) (ibc : Int32) (ilc : Int32) (igl : Int32) (ibk : Int32) (ifa : Int32) (ibd : Int32) (r2 : Nat) (r3 : Nat) (pxr : Nat → Int32) (mdr : Nat → Int32) (vzr : Int32) (vwr : Int32) (vhr : Int32) (vkr : Int32) (c2 : Nat) (c3 : Nat) (pxc : Nat → Int32) (mdc : Nat → Int32) (vzc : Int32) (vwc : Int32) (vhc : Int32) (vkc : Int32) : va_W → Prop := fun ww => ww = [(f0, .inr (8, [.ref a1, .ref c1, .ref r1, .ref y1, .ref k1, .ref j1, .int ibc, .int ilc, .int igl, .int ibk, .int ifa, .int ibd])), (r1, .inr (5, [.ref r2, .ref r3, .int vzr, .int vwr, .int vhr, .int vkr])), (r2, .inl (cI, 144, .inl pxr)), (r3, .inl (cI, 9, .inl mdr)), (c1, .inr (5, [.ref c2, .ref c3, .int vzc, .int vwc, .int vhc, .int vkc])), (c2, .inl (cI, 144, .inl pxc)), (c3, .inl (cI, 9, .inl mdc))]
set_option maxHeartbeats 4000000 in
set_option maxRecDepth 100000 in
theorem c_tf_apartD21 (l : Launch) (hst : l.stackTraces = false) {D : va_G} {tys : List (ClassId × FieldType)} {cI : ClassId} (hcI : tys[0]? = some (cI, .int)) (f0 : Nat) (a1 : Nat) (c1 : Nat) (r1 : Nat) (y1 : Nat) (k1 : Nat) (j1 : Nat) (ibc : Int32) (ilc : Int32) (igl : Int32) (ibk : Int32) (ifa : Int32) (ibd : Int32) (r2 : Nat) (r3 : Nat) (pxr : Nat → Int32) (mdr : Nat → Int32) (vzr : Int32) (vwr : Int32) (vhr : Int32) (vkr : Int32) (c2 : Nat) (c3 : Nat) (pxc : Nat → Int32) (mdc : Nat → Int32) (vzc : Int32) (vwc : Int32) (vhc : Int32) (vkc : Int32) (hm1 : ¬ vzr = 0) (hm2 : ¬ vzc = 0) (hbad : ¬ (vwr = vwc ∧ vhr = vhc)) : CxE l D vwCl tys y_TileForge_apart ws_TileForge_apart ({ frames := 6, cells := 1, slots := 6, locals := 81 } : Room) [.ref f0, .int 2, .int 1] [(f0, .inr (8, [.ref a1, .ref c1, .ref r1, .ref y1, .ref k1, .ref j1, .int ibc, .int ilc, .int igl, .int ibk, .int ifa, .int ibd])), (r1, .inr (5, [.ref r2, .ref r3, .int vzr, .int vwr, .int vhr, .int vkr])), (r2, .inl (cI, 144, .inl pxr)), (r3, .inl (cI, 9, .inl mdr)), (c1, .inr (5, [.ref c2, .ref c3, .int vzc, .int vwc, .int vhc, .int vkc])), (c2, .inl (cI, 144, .inl pxc)), (c3, .inl (cI, 9, .inl mdc))] (q_tf_apartD21 cI f0 a1 c1 r1 y1 k1 j1 ibc ilc igl ibk ifa ibd r2 r3 pxr mdr vzr vwr vhr vkr c2 c3 pxc mdc vzc vwc vhc vkc) "java/lang/UnsupportedOperationException" 1 6 := by
  intro sz
  refine cx_ofW (cc := prog_1_method_11_code) (maxL := 5) (ret := (some .double)) (by decide) rfl ?_
  intro p e s m args below meth c s₁ B hml hv
  obtain ⟨rfl, ⟨hsz, hP, hK, hD0, hN⟩, hX⟩ := hv
  have hx := B.exec
  have hb := B.bytes
  have hr := B.returns
  have hts := atoms_spec (ws := ws_TileForge_apart) B.pre
  have hown : s.vm.findClass "TileForge" = some m.cls := findClass_of_methodNamed B.named
  have hlocks := B.notSynchronized
  subst hsz
  have hD := hD0.self (sz := s.heap.size)
  generalize hAe : va_A [(f0, .inr (8, [.ref a1, .ref c1, .ref r1, .ref y1, .ref k1, .ref j1, .int ibc, .int ilc, .int igl, .int ibk, .int ifa, .int ibd])), (r1, .inr (5, [.ref r2, .ref r3, .int vzr, .int vwr, .int vhr, .int vkr])), (r2, .inl (cI, 144, .inl pxr)), (r3, .inl (cI, 9, .inl mdr)), (c1, .inr (5, [.ref c2, .ref c3, .int vzc, .int vwc, .int vhc, .int vkc])), (c2, .inl (cI, 144, .inl pxc)), (c3, .inl (cI, 9, .inl mdc))] s.heap.size = A at hD ⊢
  have hA : ∀ q : Nat, s.heap.size ≤ q → A q := fun q h => by rw [← hAe]; exact Or.inr h
  have hS : va_S A s.heap s.heap [] := va_S.rf
  have hP : va_P D vwCl [(f0, .inr (8, [.ref a1, .ref c1, .ref r1, .ref y1, .ref k1, .ref j1, .int ibc, .int ilc, .int igl, .int ibk, .int ifa, .int ibd])), (r1, .inr (5, [.ref r2, .ref r3, .int vzr, .int vwr, .int vhr, .int vkr])), (r2, .inl (cI, 144, .inl pxr)), (r3, .inl (cI, 9, .inl mdr)), (c1, .inr (5, [.ref c2, .ref c3, .int vzc, .int vwc, .int vhc, .int vkc])), (c2, .inl (cI, 144, .inl pxc)), (c3, .inl (cI, 9, .inl mdc))] s.heap := hP
  have hP0 := hP
  have hl := lv_entry ([.ref f0, .int 2, .int 1]) (n := 5) (Nat.le_of_ble_eq_true rfl)
  rw [lg_entry_eq]
  generalize (lg_sl ([.ref f0, .int 2, .int 1]) ++ List.replicate (5 - (lg_sl ([.ref f0, .int 2, .int 1])).length) Slot.unset).toArray = ls at hl ⊢
  have hl : lv_has ls 5 [(0, .ref f0), (1, .int 2), (2, .int 1)] := hl
  refine lv_iload_n hx hb d_TileForge_apart_0 rfl (lv_at hl 1 rfl) ?_
  refine cs_Si (As := [.int 2]) (rest := []) (wr := [(f0, .inr (8, [.ref a1, .ref c1, .ref r1, .ref y1, .ref k1, .ref j1, .int ibc, .int ilc, .int igl, .int ibk, .int ifa, .int ibd])), (r1, .inr (5, [.ref r2, .ref r3, .int vzr, .int vwr, .int vhr, .int vkr])), (r2, .inl (cI, 144, .inl pxr)), (r3, .inl (cI, 9, .inl mdr)), (c1, .inr (5, [.ref c2, .ref c3, .int vzc, .int vwc, .int vhc, .int vkc])), (c2, .inl (cI, 144, .inl pxc)), (c3, .inl (cI, 9, .inl mdc))]) ⟨hx, hb, hml, hown, hts⟩ (c_isChoice l hcI 2) (va_cwS 1 hts (cs_gS mw_518 mw_519 mw_139 mw_77) rfl rfl rfl hd_TileForge_isChoice ⟨Nat.le_of_ble_eq_true rfl, Nat.le_of_ble_eq_true rfl⟩) hN hK hP hD hS hA [] [0, 1, 2, 3, 4, 5, 6] rfl rfl rfl rfl (by decide) rfl rfl hl.1 (Nat.le_of_ble_eq_true rfl) d_TileForge_apart_1 ⟨Nat.le_of_ble_eq_true rfl, Nat.le_of_ble_eq_true rfl⟩ (fun r1 w1 H locs hw hP hD hS => ?_)
  obtain ⟨rfl, rfl⟩ := hw
  have hP : va_P D vwCl [(f0, .inr (8, [.ref a1, .ref c1, .ref r1, .ref y1, .ref k1, .ref j1, .int ibc, .int ilc, .int igl, .int ibk, .int ifa, .int ibd])), (r1, .inr (5, [.ref r2, .ref r3, .int vzr, .int vwr, .int vhr, .int vkr])), (r2, .inl (cI, 144, .inl pxr)), (r3, .inl (cI, 9, .inl mdr)), (c1, .inr (5, [.ref c2, .ref c3, .int vzc, .int vwc, .int vhc, .int vkc])), (c2, .inl (cI, 144, .inl pxc)), (c3, .inl (cI, 9, .inl mdc))] H := hP
  have hD : va_D A [(f0, .inr (8, [.ref a1, .ref c1, .ref r1, .ref y1, .ref k1, .ref j1, .int ibc, .int ilc, .int igl, .int ibk, .int ifa, .int ibd])), (r1, .inr (5, [.ref r2, .ref r3, .int vzr, .int vwr, .int vhr, .int vkr])), (r2, .inl (cI, 144, .inl pxr)), (r3, .inl (cI, 9, .inl mdr)), (c1, .inr (5, [.ref c2, .ref c3, .int vzc, .int vwc, .int vhc, .int vkc])), (c2, .inl (cI, 144, .inl pxc)), (c3, .inl (cI, 9, .inl mdc))] := hD
  refine lv_if_eq (tgt := 14) hx hb d_TileForge_apart_4 (by decide) (fun c_4 => ?_) (fun c_4 => ?_)
  · have c_4 := cs_b0 c_4
    exact absurd (by decide) c_4
  · have c_4 := cs_b1 c_4
    refine lv_iload_n hx hb d_TileForge_apart_7 rfl (lv_at hl 2 rfl) ?_
    refine cs_Si (As := [.int 1]) (rest := []) (wr := [(f0, .inr (8, [.ref a1, .ref c1, .ref r1, .ref y1, .ref k1, .ref j1, .int ibc, .int ilc, .int igl, .int ibk, .int ifa, .int ibd])), (r1, .inr (5, [.ref r2, .ref r3, .int vzr, .int vwr, .int vhr, .int vkr])), (r2, .inl (cI, 144, .inl pxr)), (r3, .inl (cI, 9, .inl mdr)), (c1, .inr (5, [.ref c2, .ref c3, .int vzc, .int vwc, .int vhc, .int vkc])), (c2, .inl (cI, 144, .inl pxc)), (c3, .inl (cI, 9, .inl mdc))]) ⟨hx, hb, hml, hown, hts⟩ (c_isChoice l hcI 1) (va_cwS 1 hts (cs_gS mw_518 mw_519 mw_139 mw_77) rfl rfl rfl hd_TileForge_isChoice ⟨Nat.le_of_ble_eq_true rfl, Nat.le_of_ble_eq_true rfl⟩) hN hK hP hD hS hA [] [0, 1, 2, 3, 4, 5, 6] rfl rfl rfl rfl (by decide) rfl rfl hl.1 (Nat.le_of_ble_eq_true rfl) d_TileForge_apart_8 ⟨Nat.le_of_ble_eq_true rfl, Nat.le_of_ble_eq_true rfl⟩ (fun r2 w1 H locs hw hP hD hS => ?_)
    obtain ⟨rfl, rfl⟩ := hw
    have hP : va_P D vwCl [(f0, .inr (8, [.ref a1, .ref c1, .ref r1, .ref y1, .ref k1, .ref j1, .int ibc, .int ilc, .int igl, .int ibk, .int ifa, .int ibd])), (r1, .inr (5, [.ref r2, .ref r3, .int vzr, .int vwr, .int vhr, .int vkr])), (r2, .inl (cI, 144, .inl pxr)), (r3, .inl (cI, 9, .inl mdr)), (c1, .inr (5, [.ref c2, .ref c3, .int vzc, .int vwc, .int vhc, .int vkc])), (c2, .inl (cI, 144, .inl pxc)), (c3, .inl (cI, 9, .inl mdc))] H := hP
    have hD : va_D A [(f0, .inr (8, [.ref a1, .ref c1, .ref r1, .ref y1, .ref k1, .ref j1, .int ibc, .int ilc, .int igl, .int ibk, .int ifa, .int ibd])), (r1, .inr (5, [.ref r2, .ref r3, .int vzr, .int vwr, .int vhr, .int vkr])), (r2, .inl (cI, 144, .inl pxr)), (r3, .inl (cI, 9, .inl mdr)), (c1, .inr (5, [.ref c2, .ref c3, .int vzc, .int vwc, .int vhc, .int vkc])), (c2, .inl (cI, 144, .inl pxc)), (c3, .inl (cI, 9, .inl mdc))] := hD
    refine lv_if_ne (tgt := 22) hx hb d_TileForge_apart_11 (by decide) (fun c_11 => ?_) (fun c_11 => ?_)
    · have c_11 := cs_b1 c_11
      refine lv_aload_n hx hb d_TileForge_apart_22 rfl (lv_at hl 0 rfl) ?_
      refine lv_iload_n hx hb d_TileForge_apart_23 rfl (lv_at hl 1 rfl) ?_
      refine cs_Vr (As := [.int 2]) (rest := []) (wr := [(r1, .inr (5, [.ref r2, .ref r3, .int vzr, .int vwr, .int vhr, .int vkr])), (r2, .inl (cI, 144, .inl pxr)), (r3, .inl (cI, 9, .inl mdr)), (c1, .inr (5, [.ref c2, .ref c3, .int vzc, .int vwc, .int vhc, .int vkc])), (c2, .inl (cI, 144, .inl pxc)), (c3, .inl (cI, 9, .inl mdc))]) ⟨hx, hb, hml, hown, hts⟩ (c_tf_choose2 l hcI f0 a1 c1 r1 y1 k1 j1 ibc ilc igl ibk ifa ibd) (cwV 1 hts (cs_gV mw_520 mw_521 mw_522 mw_139 mw_472) rfl rfl rfl ⟨rfl, hd_TileForge_choose⟩ ⟨Nat.le_of_ble_eq_true rfl, Nat.le_of_ble_eq_true rfl⟩) hN hK hP hD hS hA [0] [1, 2, 3, 4, 5, 6] rfl rfl rfl rfl (by decide) (ci := 8) rfl rfl rfl rfl rfl hl.1 (Nat.le_of_ble_eq_true rfl) d_TileForge_apart_24 ⟨Nat.le_of_ble_eq_true rfl, Nat.le_of_ble_eq_true rfl⟩ (fun r3 w1 H locs hw hP hD hS => ?_)
      obtain ⟨hrr, rfl⟩ := hw
      have hrr := hrr.symm
      subst hrr
      have hP : va_P D vwCl [(r1, .inr (5, [.ref r2, .ref r3, .int vzr, .int vwr, .int vhr, .int vkr])), (r2, .inl (cI, 144, .inl pxr)), (r3, .inl (cI, 9, .inl mdr)), (c1, .inr (5, [.ref c2, .ref c3, .int vzc, .int vwc, .int vhc, .int vkc])), (c2, .inl (cI, 144, .inl pxc)), (c3, .inl (cI, 9, .inl mdc)), (f0, .inr (8, [.ref a1, .ref c1, .ref r1, .ref y1, .ref k1, .ref j1, .int ibc, .int ilc, .int igl, .int ibk, .int ifa, .int ibd]))] H := hP
      have hD : va_D A [(r1, .inr (5, [.ref r2, .ref r3, .int vzr, .int vwr, .int vhr, .int vkr])), (r2, .inl (cI, 144, .inl pxr)), (r3, .inl (cI, 9, .inl mdr)), (c1, .inr (5, [.ref c2, .ref c3, .int vzc, .int vwc, .int vhc, .int vkc])), (c2, .inl (cI, 144, .inl pxc)), (c3, .inl (cI, 9, .inl mdc)), (f0, .inr (8, [.ref a1, .ref c1, .ref r1, .ref y1, .ref k1, .ref j1, .int ibc, .int ilc, .int igl, .int ibk, .int ifa, .int ibd]))] := hD
      refine lv_astore_n (lv' := [(3, .ref r1), (0, .ref f0), (1, .int 2), (2, .int 1)]) hx hb d_TileForge_apart_27 rfl hl (by decide) rfl (fun ls hl => ?_)
      refine lv_aload_n hx hb d_TileForge_apart_28 rfl (lv_at hl 1 rfl) ?_
      refine lv_iload_n hx hb d_TileForge_apart_29 rfl (lv_at hl 3 rfl) ?_
      refine cs_Vr (As := [.int 1]) (rest := []) (wr := [(r1, .inr (5, [.ref r2, .ref r3, .int vzr, .int vwr, .int vhr, .int vkr])), (r2, .inl (cI, 144, .inl pxr)), (r3, .inl (cI, 9, .inl mdr)), (c1, .inr (5, [.ref c2, .ref c3, .int vzc, .int vwc, .int vhc, .int vkc])), (c2, .inl (cI, 144, .inl pxc)), (c3, .inl (cI, 9, .inl mdc))]) ⟨hx, hb, hml, hown, hts⟩ (c_tf_choose1 l hcI f0 a1 c1 r1 y1 k1 j1 ibc ilc igl ibk ifa ibd) (cwV 1 hts (cs_gV mw_520 mw_521 mw_522 mw_139 mw_472) rfl rfl rfl ⟨rfl, hd_TileForge_choose⟩ ⟨Nat.le_of_ble_eq_true rfl, Nat.le_of_ble_eq_true rfl⟩) hN hK hP hD hS hA [6] [0, 1, 2, 3, 4, 5] rfl rfl rfl rfl (by decide) (ci := 8) rfl rfl rfl rfl rfl hl.1 (Nat.le_of_ble_eq_true rfl) d_TileForge_apart_30 ⟨Nat.le_of_ble_eq_true rfl, Nat.le_of_ble_eq_true rfl⟩ (fun r4 w1 H locs hw hP hD hS => ?_)
      obtain ⟨hrr, rfl⟩ := hw
      have hrr := hrr.symm
      subst hrr
      have hP : va_P D vwCl [(r1, .inr (5, [.ref r2, .ref r3, .int vzr, .int vwr, .int vhr, .int vkr])), (r2, .inl (cI, 144, .inl pxr)), (r3, .inl (cI, 9, .inl mdr)), (c1, .inr (5, [.ref c2, .ref c3, .int vzc, .int vwc, .int vhc, .int vkc])), (c2, .inl (cI, 144, .inl pxc)), (c3, .inl (cI, 9, .inl mdc)), (f0, .inr (8, [.ref a1, .ref c1, .ref r1, .ref y1, .ref k1, .ref j1, .int ibc, .int ilc, .int igl, .int ibk, .int ifa, .int ibd]))] H := hP
      have hD : va_D A [(r1, .inr (5, [.ref r2, .ref r3, .int vzr, .int vwr, .int vhr, .int vkr])), (r2, .inl (cI, 144, .inl pxr)), (r3, .inl (cI, 9, .inl mdr)), (c1, .inr (5, [.ref c2, .ref c3, .int vzc, .int vwc, .int vhc, .int vkc])), (c2, .inl (cI, 144, .inl pxc)), (c3, .inl (cI, 9, .inl mdc)), (f0, .inr (8, [.ref a1, .ref c1, .ref r1, .ref y1, .ref k1, .ref j1, .int ibc, .int ilc, .int igl, .int ibk, .int ifa, .int ibd]))] := hD
      refine lv_astore (lv' := [(4, .ref c1), (3, .ref r1), (0, .ref f0), (1, .int 2), (2, .int 1)]) hx hb d_TileForge_apart_33 hl (by decide) rfl (fun ls hl => ?_)
      refine lv_aload_n hx hb d_TileForge_apart_35 rfl (lv_at hl 1 rfl) ?_
      refine va_get (D := D) (ci := 5) (v := .int vzr) (C := "TileForge$Picture") (T := T_Picture) (N := 6) hx hb hts (cs_in in_Picture) hown hK hP 0 rfl rfl 2 (by decide) (hts _ (cs_m mw_523)) (fun _ h9 => h9) rfl d_TileForge_apart_36 ?_
      refine lv_if_eq (tgt := 50) hx hb d_TileForge_apart_39 (by decide) (fun c_39 => ?_) (fun c_39 => ?_)
      · exact absurd c_39 hm1
      · refine lv_aload hx hb d_TileForge_apart_42 (lv_at hl 0 rfl) ?_
        refine va_get (D := D) (ci := 5) (v := .int vzc) (C := "TileForge$Picture") (T := T_Picture) (N := 6) hx hb hts (cs_in in_Picture) hown hK hP 3 rfl rfl 2 (by decide) (hts _ (cs_m mw_523)) (fun _ h9 => h9) rfl d_TileForge_apart_44 ?_
        refine lv_if_ne (tgt := 58) hx hb d_TileForge_apart_47 (by decide) (fun c_47 => ?_) (fun c_47 => ?_)
        · refine lv_aload_n hx hb d_TileForge_apart_58 rfl (lv_at hl 1 rfl) ?_
          refine va_get (D := D) (ci := 5) (v := .int vwr) (C := "TileForge$Picture") (T := T_Picture) (N := 6) hx hb hts (cs_in in_Picture) hown hK hP 0 rfl rfl 3 (by decide) (hts _ (cs_m mw_478)) (fun _ h9 => h9) rfl d_TileForge_apart_59 ?_
          refine lv_aload hx hb d_TileForge_apart_62 (lv_at hl 0 rfl) ?_
          refine va_get (D := D) (ci := 5) (v := .int vwc) (C := "TileForge$Picture") (T := T_Picture) (N := 6) hx hb hts (cs_in in_Picture) hown hK hP 3 rfl rfl 3 (by decide) (hts _ (cs_m mw_478)) (fun _ h9 => h9) rfl d_TileForge_apart_64 ?_
          refine lv_icmp_ne (tgt := 82) hx hb d_TileForge_apart_67 (by decide) (fun c_67 => ?_) (fun c_67 => ?_)
          · have hP := hP.sub (ws' := [(f0, .inr (8, [.ref a1, .ref c1, .ref r1, .ref y1, .ref k1, .ref j1, .int ibc, .int ilc, .int igl, .int ibk, .int ifa, .int ibd])), (r1, .inr (5, [.ref r2, .ref r3, .int vzr, .int vwr, .int vhr, .int vkr])), (r2, .inl (cI, 144, .inl pxr)), (r3, .inl (cI, 9, .inl mdr)), (c1, .inr (5, [.ref c2, .ref c3, .int vzc, .int vwc, .int vhc, .int vkc])), (c2, .inl (cI, 144, .inl pxc)), (c3, .inl (cI, 9, .inl mdc))]) [6, 0, 1, 2, 3, 4, 5] rfl
            have hD := hD.sub (ws' := [(f0, .inr (8, [.ref a1, .ref c1, .ref r1, .ref y1, .ref k1, .ref j1, .int ibc, .int ilc, .int igl, .int ibk, .int ifa, .int ibd])), (r1, .inr (5, [.ref r2, .ref r3, .int vzr, .int vwr, .int vhr, .int vkr])), (r2, .inl (cI, 144, .inl pxr)), (r3, .inl (cI, 9, .inl mdr)), (c1, .inr (5, [.ref c2, .ref c3, .int vzc, .int vwc, .int vhc, .int vkc])), (c2, .inl (cI, 144, .inl pxc)), (c3, .inl (cI, 9, .inl mdc))]) [6, 0, 1, 2, 3, 4, 5] (by decide) rfl
            exact cx_thr (ix := 116) (ic := 118) (E := "java/lang/UnsupportedOperationException") (post := (q_tf_apartD21 cI f0 a1 c1 r1 y1 k1 j1 ibc ilc igl ibk ifa ibd r2 r3 pxr mdr vzr vwr vhr vkr c2 c3 pxc mdc vzc vwc vhc vkc)) hx hb hst (hl.1.trans hml.symm) B.named hts hown hX hP0 hAe mw_573 mw_574 mw_575 oa_UOE fi_UOE hK hP hD hS hlocks (Nat.le_of_ble_eq_true rfl) (Nat.le_of_ble_eq_true rfl) (Nat.le_of_ble_eq_true rfl) (Nat.le_of_ble_eq_true rfl) (Nat.le_of_ble_eq_true rfl) (Nat.le_of_ble_eq_true rfl) d_TileForge_apart_82 d_TileForge_apart_85 d_TileForge_apart_86 d_TileForge_apart_89  (show _ = _ from rfl)
          · refine lv_aload_n hx hb d_TileForge_apart_70 rfl (lv_at hl 1 rfl) ?_
            refine va_get (D := D) (ci := 5) (v := .int vhr) (C := "TileForge$Picture") (T := T_Picture) (N := 6) hx hb hts (cs_in in_Picture) hown hK hP 0 rfl rfl 4 (by decide) (hts _ (cs_m mw_477)) (fun _ h9 => h9) rfl d_TileForge_apart_71 ?_
            refine lv_aload hx hb d_TileForge_apart_74 (lv_at hl 0 rfl) ?_
            refine va_get (D := D) (ci := 5) (v := .int vhc) (C := "TileForge$Picture") (T := T_Picture) (N := 6) hx hb hts (cs_in in_Picture) hown hK hP 3 rfl rfl 4 (by decide) (hts _ (cs_m mw_477)) (fun _ h9 => h9) rfl d_TileForge_apart_76 ?_
            refine lv_icmp_eq (tgt := 90) hx hb d_TileForge_apart_79 (by decide) (fun c_79 => ?_) (fun c_79 => ?_)
            · exact absurd (⟨c_67, c_79⟩ : vwr = vwc ∧ vhr = vhc) hbad
            · have hP := hP.sub (ws' := [(f0, .inr (8, [.ref a1, .ref c1, .ref r1, .ref y1, .ref k1, .ref j1, .int ibc, .int ilc, .int igl, .int ibk, .int ifa, .int ibd])), (r1, .inr (5, [.ref r2, .ref r3, .int vzr, .int vwr, .int vhr, .int vkr])), (r2, .inl (cI, 144, .inl pxr)), (r3, .inl (cI, 9, .inl mdr)), (c1, .inr (5, [.ref c2, .ref c3, .int vzc, .int vwc, .int vhc, .int vkc])), (c2, .inl (cI, 144, .inl pxc)), (c3, .inl (cI, 9, .inl mdc))]) [6, 0, 1, 2, 3, 4, 5] rfl
              have hD := hD.sub (ws' := [(f0, .inr (8, [.ref a1, .ref c1, .ref r1, .ref y1, .ref k1, .ref j1, .int ibc, .int ilc, .int igl, .int ibk, .int ifa, .int ibd])), (r1, .inr (5, [.ref r2, .ref r3, .int vzr, .int vwr, .int vhr, .int vkr])), (r2, .inl (cI, 144, .inl pxr)), (r3, .inl (cI, 9, .inl mdr)), (c1, .inr (5, [.ref c2, .ref c3, .int vzc, .int vwc, .int vhc, .int vkc])), (c2, .inl (cI, 144, .inl pxc)), (c3, .inl (cI, 9, .inl mdc))]) [6, 0, 1, 2, 3, 4, 5] (by decide) rfl
              exact cx_thr (ix := 116) (ic := 118) (E := "java/lang/UnsupportedOperationException") (post := (q_tf_apartD21 cI f0 a1 c1 r1 y1 k1 j1 ibc ilc igl ibk ifa ibd r2 r3 pxr mdr vzr vwr vhr vkr c2 c3 pxc mdc vzc vwc vhc vkc)) hx hb hst (hl.1.trans hml.symm) B.named hts hown hX hP0 hAe mw_573 mw_574 mw_575 oa_UOE fi_UOE hK hP hD hS hlocks (Nat.le_of_ble_eq_true rfl) (Nat.le_of_ble_eq_true rfl) (Nat.le_of_ble_eq_true rfl) (Nat.le_of_ble_eq_true rfl) (Nat.le_of_ble_eq_true rfl) (Nat.le_of_ble_eq_true rfl) d_TileForge_apart_82 d_TileForge_apart_85 d_TileForge_apart_86 d_TileForge_apart_89  (show _ = _ from rfl)
        · exact absurd c_47 hm2
    · have c_11 := cs_b0 c_11
      exact absurd (by decide) c_11
def q_tf_apartC22 (cI : ClassId) (f0 : Nat) (a1 : Nat) (c1 : Nat) (r1 : Nat) (y1 : Nat) (k1 : Nat) (j1 : Nat) (ibc : Int32) (ilc : Int32) (igl : Int32) (ibk : Int32) (ifa : Int32) (ibd : Int32) (r2 : Nat) (r3 : Nat) (pxr : Nat → Int32) (mdr : Nat → Int32) (vzr : Int32) (vwr : Int32) (vhr : Int32) (vkr : Int32) : va_W → Prop := fun ww => ww = [(f0, .inr (8, [.ref a1, .ref c1, .ref r1, .ref y1, .ref k1, .ref j1, .int ibc, .int ilc, .int igl, .int ibk, .int ifa, .int ibd])), (r1, .inr (5, [.ref r2, .ref r3, .int vzr, .int vwr, .int vhr, .int vkr])), (r2, .inl (cI, 144, .inl pxr)), (r3, .inl (cI, 9, .inl mdr))]
set_option maxHeartbeats 4000000 in
set_option maxRecDepth 100000 in
theorem c_tf_apartC22 (l : Launch) (hst : l.stackTraces = false) {D : va_G} {tys : List (ClassId × FieldType)} {cI : ClassId} (hcI : tys[0]? = some (cI, .int)) (f0 : Nat) (a1 : Nat) (c1 : Nat) (r1 : Nat) (y1 : Nat) (k1 : Nat) (j1 : Nat) (ibc : Int32) (ilc : Int32) (igl : Int32) (ibk : Int32) (ifa : Int32) (ibd : Int32) (r2 : Nat) (r3 : Nat) (pxr : Nat → Int32) (mdr : Nat → Int32) (vzr : Int32) (vwr : Int32) (vhr : Int32) (vkr : Int32) (hbad : ¬ (¬ vzr = 0 ∧ ¬ vzr = 0)) : CxE l D vwCl tys y_TileForge_apart ws_TileForge_apart ({ frames := 6, cells := 1, slots := 6, locals := 81 } : Room) [.ref f0, .int 2, .int 2] [(f0, .inr (8, [.ref a1, .ref c1, .ref r1, .ref y1, .ref k1, .ref j1, .int ibc, .int ilc, .int igl, .int ibk, .int ifa, .int ibd])), (r1, .inr (5, [.ref r2, .ref r3, .int vzr, .int vwr, .int vhr, .int vkr])), (r2, .inl (cI, 144, .inl pxr)), (r3, .inl (cI, 9, .inl mdr))] (q_tf_apartC22 cI f0 a1 c1 r1 y1 k1 j1 ibc ilc igl ibk ifa ibd r2 r3 pxr mdr vzr vwr vhr vkr) "java/lang/IllegalStateException" 1 6 := by
  intro sz
  refine cx_ofW (cc := prog_1_method_11_code) (maxL := 5) (ret := (some .double)) (by decide) rfl ?_
  intro p e s m args below meth c s₁ B hml hv
  obtain ⟨rfl, ⟨hsz, hP, hK, hD0, hN⟩, hX⟩ := hv
  have hx := B.exec
  have hb := B.bytes
  have hr := B.returns
  have hts := atoms_spec (ws := ws_TileForge_apart) B.pre
  have hown : s.vm.findClass "TileForge" = some m.cls := findClass_of_methodNamed B.named
  have hlocks := B.notSynchronized
  subst hsz
  have hD := hD0.self (sz := s.heap.size)
  generalize hAe : va_A [(f0, .inr (8, [.ref a1, .ref c1, .ref r1, .ref y1, .ref k1, .ref j1, .int ibc, .int ilc, .int igl, .int ibk, .int ifa, .int ibd])), (r1, .inr (5, [.ref r2, .ref r3, .int vzr, .int vwr, .int vhr, .int vkr])), (r2, .inl (cI, 144, .inl pxr)), (r3, .inl (cI, 9, .inl mdr))] s.heap.size = A at hD ⊢
  have hA : ∀ q : Nat, s.heap.size ≤ q → A q := fun q h => by rw [← hAe]; exact Or.inr h
  have hS : va_S A s.heap s.heap [] := va_S.rf
  have hP : va_P D vwCl [(f0, .inr (8, [.ref a1, .ref c1, .ref r1, .ref y1, .ref k1, .ref j1, .int ibc, .int ilc, .int igl, .int ibk, .int ifa, .int ibd])), (r1, .inr (5, [.ref r2, .ref r3, .int vzr, .int vwr, .int vhr, .int vkr])), (r2, .inl (cI, 144, .inl pxr)), (r3, .inl (cI, 9, .inl mdr))] s.heap := hP
  have hP0 := hP
  have hl := lv_entry ([.ref f0, .int 2, .int 2]) (n := 5) (Nat.le_of_ble_eq_true rfl)
  rw [lg_entry_eq]
  generalize (lg_sl ([.ref f0, .int 2, .int 2]) ++ List.replicate (5 - (lg_sl ([.ref f0, .int 2, .int 2])).length) Slot.unset).toArray = ls at hl ⊢
  have hl : lv_has ls 5 [(0, .ref f0), (1, .int 2), (2, .int 2)] := hl
  refine lv_iload_n hx hb d_TileForge_apart_0 rfl (lv_at hl 1 rfl) ?_
  refine cs_Si (As := [.int 2]) (rest := []) (wr := [(f0, .inr (8, [.ref a1, .ref c1, .ref r1, .ref y1, .ref k1, .ref j1, .int ibc, .int ilc, .int igl, .int ibk, .int ifa, .int ibd])), (r1, .inr (5, [.ref r2, .ref r3, .int vzr, .int vwr, .int vhr, .int vkr])), (r2, .inl (cI, 144, .inl pxr)), (r3, .inl (cI, 9, .inl mdr))]) ⟨hx, hb, hml, hown, hts⟩ (c_isChoice l hcI 2) (va_cwS 1 hts (cs_gS mw_518 mw_519 mw_139 mw_77) rfl rfl rfl hd_TileForge_isChoice ⟨Nat.le_of_ble_eq_true rfl, Nat.le_of_ble_eq_true rfl⟩) hN hK hP hD hS hA [] [0, 1, 2, 3] rfl rfl rfl rfl (by decide) rfl rfl hl.1 (Nat.le_of_ble_eq_true rfl) d_TileForge_apart_1 ⟨Nat.le_of_ble_eq_true rfl, Nat.le_of_ble_eq_true rfl⟩ (fun r1 w1 H locs hw hP hD hS => ?_)
  obtain ⟨rfl, rfl⟩ := hw
  have hP : va_P D vwCl [(f0, .inr (8, [.ref a1, .ref c1, .ref r1, .ref y1, .ref k1, .ref j1, .int ibc, .int ilc, .int igl, .int ibk, .int ifa, .int ibd])), (r1, .inr (5, [.ref r2, .ref r3, .int vzr, .int vwr, .int vhr, .int vkr])), (r2, .inl (cI, 144, .inl pxr)), (r3, .inl (cI, 9, .inl mdr))] H := hP
  have hD : va_D A [(f0, .inr (8, [.ref a1, .ref c1, .ref r1, .ref y1, .ref k1, .ref j1, .int ibc, .int ilc, .int igl, .int ibk, .int ifa, .int ibd])), (r1, .inr (5, [.ref r2, .ref r3, .int vzr, .int vwr, .int vhr, .int vkr])), (r2, .inl (cI, 144, .inl pxr)), (r3, .inl (cI, 9, .inl mdr))] := hD
  refine lv_if_eq (tgt := 14) hx hb d_TileForge_apart_4 (by decide) (fun c_4 => ?_) (fun c_4 => ?_)
  · have c_4 := cs_b0 c_4
    exact absurd (by decide) c_4
  · have c_4 := cs_b1 c_4
    refine lv_iload_n hx hb d_TileForge_apart_7 rfl (lv_at hl 2 rfl) ?_
    refine cs_Si (As := [.int 2]) (rest := []) (wr := [(f0, .inr (8, [.ref a1, .ref c1, .ref r1, .ref y1, .ref k1, .ref j1, .int ibc, .int ilc, .int igl, .int ibk, .int ifa, .int ibd])), (r1, .inr (5, [.ref r2, .ref r3, .int vzr, .int vwr, .int vhr, .int vkr])), (r2, .inl (cI, 144, .inl pxr)), (r3, .inl (cI, 9, .inl mdr))]) ⟨hx, hb, hml, hown, hts⟩ (c_isChoice l hcI 2) (va_cwS 1 hts (cs_gS mw_518 mw_519 mw_139 mw_77) rfl rfl rfl hd_TileForge_isChoice ⟨Nat.le_of_ble_eq_true rfl, Nat.le_of_ble_eq_true rfl⟩) hN hK hP hD hS hA [] [0, 1, 2, 3] rfl rfl rfl rfl (by decide) rfl rfl hl.1 (Nat.le_of_ble_eq_true rfl) d_TileForge_apart_8 ⟨Nat.le_of_ble_eq_true rfl, Nat.le_of_ble_eq_true rfl⟩ (fun r2 w1 H locs hw hP hD hS => ?_)
    obtain ⟨rfl, rfl⟩ := hw
    have hP : va_P D vwCl [(f0, .inr (8, [.ref a1, .ref c1, .ref r1, .ref y1, .ref k1, .ref j1, .int ibc, .int ilc, .int igl, .int ibk, .int ifa, .int ibd])), (r1, .inr (5, [.ref r2, .ref r3, .int vzr, .int vwr, .int vhr, .int vkr])), (r2, .inl (cI, 144, .inl pxr)), (r3, .inl (cI, 9, .inl mdr))] H := hP
    have hD : va_D A [(f0, .inr (8, [.ref a1, .ref c1, .ref r1, .ref y1, .ref k1, .ref j1, .int ibc, .int ilc, .int igl, .int ibk, .int ifa, .int ibd])), (r1, .inr (5, [.ref r2, .ref r3, .int vzr, .int vwr, .int vhr, .int vkr])), (r2, .inl (cI, 144, .inl pxr)), (r3, .inl (cI, 9, .inl mdr))] := hD
    refine lv_if_ne (tgt := 22) hx hb d_TileForge_apart_11 (by decide) (fun c_11 => ?_) (fun c_11 => ?_)
    · have c_11 := cs_b1 c_11
      refine lv_aload_n hx hb d_TileForge_apart_22 rfl (lv_at hl 0 rfl) ?_
      refine lv_iload_n hx hb d_TileForge_apart_23 rfl (lv_at hl 1 rfl) ?_
      refine cs_Vr (As := [.int 2]) (rest := []) (wr := [(r1, .inr (5, [.ref r2, .ref r3, .int vzr, .int vwr, .int vhr, .int vkr])), (r2, .inl (cI, 144, .inl pxr)), (r3, .inl (cI, 9, .inl mdr))]) ⟨hx, hb, hml, hown, hts⟩ (c_tf_choose2 l hcI f0 a1 c1 r1 y1 k1 j1 ibc ilc igl ibk ifa ibd) (cwV 1 hts (cs_gV mw_520 mw_521 mw_522 mw_139 mw_472) rfl rfl rfl ⟨rfl, hd_TileForge_choose⟩ ⟨Nat.le_of_ble_eq_true rfl, Nat.le_of_ble_eq_true rfl⟩) hN hK hP hD hS hA [0] [1, 2, 3] rfl rfl rfl rfl (by decide) (ci := 8) rfl rfl rfl rfl rfl hl.1 (Nat.le_of_ble_eq_true rfl) d_TileForge_apart_24 ⟨Nat.le_of_ble_eq_true rfl, Nat.le_of_ble_eq_true rfl⟩ (fun r3 w1 H locs hw hP hD hS => ?_)
      obtain ⟨hrr, rfl⟩ := hw
      have hrr := hrr.symm
      subst hrr
      have hP : va_P D vwCl [(r1, .inr (5, [.ref r2, .ref r3, .int vzr, .int vwr, .int vhr, .int vkr])), (r2, .inl (cI, 144, .inl pxr)), (r3, .inl (cI, 9, .inl mdr)), (f0, .inr (8, [.ref a1, .ref c1, .ref r1, .ref y1, .ref k1, .ref j1, .int ibc, .int ilc, .int igl, .int ibk, .int ifa, .int ibd]))] H := hP
      have hD : va_D A [(r1, .inr (5, [.ref r2, .ref r3, .int vzr, .int vwr, .int vhr, .int vkr])), (r2, .inl (cI, 144, .inl pxr)), (r3, .inl (cI, 9, .inl mdr)), (f0, .inr (8, [.ref a1, .ref c1, .ref r1, .ref y1, .ref k1, .ref j1, .int ibc, .int ilc, .int igl, .int ibk, .int ifa, .int ibd]))] := hD
      refine lv_astore_n (lv' := [(3, .ref r1), (0, .ref f0), (1, .int 2), (2, .int 2)]) hx hb d_TileForge_apart_27 rfl hl (by decide) rfl (fun ls hl => ?_)
      refine lv_aload_n hx hb d_TileForge_apart_28 rfl (lv_at hl 1 rfl) ?_
      refine lv_iload_n hx hb d_TileForge_apart_29 rfl (lv_at hl 3 rfl) ?_
      refine cs_Vr (As := [.int 2]) (rest := []) (wr := [(r1, .inr (5, [.ref r2, .ref r3, .int vzr, .int vwr, .int vhr, .int vkr])), (r2, .inl (cI, 144, .inl pxr)), (r3, .inl (cI, 9, .inl mdr))]) ⟨hx, hb, hml, hown, hts⟩ (c_tf_choose2 l hcI f0 a1 c1 r1 y1 k1 j1 ibc ilc igl ibk ifa ibd) (cwV 1 hts (cs_gV mw_520 mw_521 mw_522 mw_139 mw_472) rfl rfl rfl ⟨rfl, hd_TileForge_choose⟩ ⟨Nat.le_of_ble_eq_true rfl, Nat.le_of_ble_eq_true rfl⟩) hN hK hP hD hS hA [3] [0, 1, 2] rfl rfl rfl rfl (by decide) (ci := 8) rfl rfl rfl rfl rfl hl.1 (Nat.le_of_ble_eq_true rfl) d_TileForge_apart_30 ⟨Nat.le_of_ble_eq_true rfl, Nat.le_of_ble_eq_true rfl⟩ (fun r4 w1 H locs hw hP hD hS => ?_)
      obtain ⟨hrr, rfl⟩ := hw
      have hrr := hrr.symm
      subst hrr
      have hP : va_P D vwCl [(r1, .inr (5, [.ref r2, .ref r3, .int vzr, .int vwr, .int vhr, .int vkr])), (r2, .inl (cI, 144, .inl pxr)), (r3, .inl (cI, 9, .inl mdr)), (f0, .inr (8, [.ref a1, .ref c1, .ref r1, .ref y1, .ref k1, .ref j1, .int ibc, .int ilc, .int igl, .int ibk, .int ifa, .int ibd]))] H := hP
      have hD : va_D A [(r1, .inr (5, [.ref r2, .ref r3, .int vzr, .int vwr, .int vhr, .int vkr])), (r2, .inl (cI, 144, .inl pxr)), (r3, .inl (cI, 9, .inl mdr)), (f0, .inr (8, [.ref a1, .ref c1, .ref r1, .ref y1, .ref k1, .ref j1, .int ibc, .int ilc, .int igl, .int ibk, .int ifa, .int ibd]))] := hD
      refine lv_astore (lv' := [(4, .ref r1), (3, .ref r1), (0, .ref f0), (1, .int 2), (2, .int 2)]) hx hb d_TileForge_apart_33 hl (by decide) rfl (fun ls hl => ?_)
      refine lv_aload_n hx hb d_TileForge_apart_35 rfl (lv_at hl 1 rfl) ?_
      refine va_get (D := D) (ci := 5) (v := .int vzr) (C := "TileForge$Picture") (T := T_Picture) (N := 6) hx hb hts (cs_in in_Picture) hown hK hP 0 rfl rfl 2 (by decide) (hts _ (cs_m mw_523)) (fun _ h9 => h9) rfl d_TileForge_apart_36 ?_
      refine lv_if_eq (tgt := 50) hx hb d_TileForge_apart_39 (by decide) (fun c_39 => ?_) (fun c_39 => ?_)
      · have hP := hP.sub (ws' := [(f0, .inr (8, [.ref a1, .ref c1, .ref r1, .ref y1, .ref k1, .ref j1, .int ibc, .int ilc, .int igl, .int ibk, .int ifa, .int ibd])), (r1, .inr (5, [.ref r2, .ref r3, .int vzr, .int vwr, .int vhr, .int vkr])), (r2, .inl (cI, 144, .inl pxr)), (r3, .inl (cI, 9, .inl mdr))]) [3, 0, 1, 2] rfl
        have hD := hD.sub (ws' := [(f0, .inr (8, [.ref a1, .ref c1, .ref r1, .ref y1, .ref k1, .ref j1, .int ibc, .int ilc, .int igl, .int ibk, .int ifa, .int ibd])), (r1, .inr (5, [.ref r2, .ref r3, .int vzr, .int vwr, .int vhr, .int vkr])), (r2, .inl (cI, 144, .inl pxr)), (r3, .inl (cI, 9, .inl mdr))]) [3, 0, 1, 2] (by decide) rfl
        exact cx_thr (ix := 103) (ic := 105) (E := "java/lang/IllegalStateException") (post := (q_tf_apartC22 cI f0 a1 c1 r1 y1 k1 j1 ibc ilc igl ibk ifa ibd r2 r3 pxr mdr vzr vwr vhr vkr)) hx hb hst (hl.1.trans hml.symm) B.named hts hown hX hP0 hAe mw_576 mw_577 mw_578 oa_ISE fi_ISE hK hP hD hS hlocks (Nat.le_of_ble_eq_true rfl) (Nat.le_of_ble_eq_true rfl) (Nat.le_of_ble_eq_true rfl) (Nat.le_of_ble_eq_true rfl) (Nat.le_of_ble_eq_true rfl) (Nat.le_of_ble_eq_true rfl) d_TileForge_apart_50 d_TileForge_apart_53 d_TileForge_apart_54 d_TileForge_apart_57  (show _ = _ from rfl)
      · refine lv_aload hx hb d_TileForge_apart_42 (lv_at hl 0 rfl) ?_
        refine va_get (D := D) (ci := 5) (v := .int vzr) (C := "TileForge$Picture") (T := T_Picture) (N := 6) hx hb hts (cs_in in_Picture) hown hK hP 0 rfl rfl 2 (by decide) (hts _ (cs_m mw_523)) (fun _ h9 => h9) rfl d_TileForge_apart_44 ?_
        refine lv_if_ne (tgt := 58) hx hb d_TileForge_apart_47 (by decide) (fun c_47 => ?_) (fun c_47 => ?_)
        · exact absurd (⟨c_39, c_47⟩ : ¬ vzr = 0 ∧ ¬ vzr = 0) hbad
        · have hP := hP.sub (ws' := [(f0, .inr (8, [.ref a1, .ref c1, .ref r1, .ref y1, .ref k1, .ref j1, .int ibc, .int ilc, .int igl, .int ibk, .int ifa, .int ibd])), (r1, .inr (5, [.ref r2, .ref r3, .int vzr, .int vwr, .int vhr, .int vkr])), (r2, .inl (cI, 144, .inl pxr)), (r3, .inl (cI, 9, .inl mdr))]) [3, 0, 1, 2] rfl
          have hD := hD.sub (ws' := [(f0, .inr (8, [.ref a1, .ref c1, .ref r1, .ref y1, .ref k1, .ref j1, .int ibc, .int ilc, .int igl, .int ibk, .int ifa, .int ibd])), (r1, .inr (5, [.ref r2, .ref r3, .int vzr, .int vwr, .int vhr, .int vkr])), (r2, .inl (cI, 144, .inl pxr)), (r3, .inl (cI, 9, .inl mdr))]) [3, 0, 1, 2] (by decide) rfl
          exact cx_thr (ix := 103) (ic := 105) (E := "java/lang/IllegalStateException") (post := (q_tf_apartC22 cI f0 a1 c1 r1 y1 k1 j1 ibc ilc igl ibk ifa ibd r2 r3 pxr mdr vzr vwr vhr vkr)) hx hb hst (hl.1.trans hml.symm) B.named hts hown hX hP0 hAe mw_576 mw_577 mw_578 oa_ISE fi_ISE hK hP hD hS hlocks (Nat.le_of_ble_eq_true rfl) (Nat.le_of_ble_eq_true rfl) (Nat.le_of_ble_eq_true rfl) (Nat.le_of_ble_eq_true rfl) (Nat.le_of_ble_eq_true rfl) (Nat.le_of_ble_eq_true rfl) d_TileForge_apart_50 d_TileForge_apart_53 d_TileForge_apart_54 d_TileForge_apart_57  (show _ = _ from rfl)
    · have c_11 := cs_b0 c_11
      exact absurd (by decide) c_11
def q_tf_modeRB (cI : ClassId) (f0 : Nat) (a1 : Nat) (c1 : Nat) (r1 : Nat) (y1 : Nat) (k1 : Nat) (j1 : Nat) (ibc : Int32) (ilc : Int32) (igl : Int32) (ibk : Int32) (ifa : Int32) (ibd : Int32) (r2 : Nat) (r3 : Nat) (pxr : Nat → Int32) (mdr : Nat → Int32) (vzr : Int32) (vwr : Int32) (vhr : Int32) (vkr : Int32) (k : Int32) : va_W → Prop := fun ww => ww = [(f0, .inr (8, [.ref a1, .ref c1, .ref r1, .ref y1, .ref k1, .ref j1, .int ibc, .int ilc, .int igl, .int ibk, .int ifa, .int ibd])), (r1, .inr (5, [.ref r2, .ref r3, .int vzr, .int vwr, .int vhr, .int vkr])), (r2, .inl (cI, 144, .inl pxr)), (r3, .inl (cI, 9, .inl mdr))]
set_option maxHeartbeats 4000000 in
set_option maxRecDepth 100000 in
theorem c_tf_modeRB (l : Launch) (hst : l.stackTraces = false) {D : va_G} {tys : List (ClassId × FieldType)} {cI : ClassId} (hcI : tys[0]? = some (cI, .int)) (f0 : Nat) (a1 : Nat) (c1 : Nat) (r1 : Nat) (y1 : Nat) (k1 : Nat) (j1 : Nat) (ibc : Int32) (ilc : Int32) (igl : Int32) (ibk : Int32) (ifa : Int32) (ibd : Int32) (r2 : Nat) (r3 : Nat) (pxr : Nat → Int32) (mdr : Nat → Int32) (vzr : Int32) (vwr : Int32) (vhr : Int32) (vkr : Int32) (k : Int32) (hbad : ¬ (¬ k < 0 ∧ ¬ vkr ≤ k ∧ ¬ 9 ≤ k)) : CxE l D vwCl tys y_TileForge_mode ws_TileForge_mode ({ frames := 6, cells := 1, slots := 6, locals := 81 } : Room) [.ref f0, .int 1, .int k] [(f0, .inr (8, [.ref a1, .ref c1, .ref r1, .ref y1, .ref k1, .ref j1, .int ibc, .int ilc, .int igl, .int ibk, .int ifa, .int ibd])), (r1, .inr (5, [.ref r2, .ref r3, .int vzr, .int vwr, .int vhr, .int vkr])), (r2, .inl (cI, 144, .inl pxr)), (r3, .inl (cI, 9, .inl mdr))] (q_tf_modeRB cI f0 a1 c1 r1 y1 k1 j1 ibc ilc igl ibk ifa ibd r2 r3 pxr mdr vzr vwr vhr vkr k) "java/lang/IndexOutOfBoundsException" 1 6 := by
  intro sz
  refine cx_ofW (cc := prog_1_method_12_code) (maxL := 4) (ret := (some .int)) (by decide) rfl ?_
  intro p e s m args below meth c s₁ B hml hv
  obtain ⟨rfl, ⟨hsz, hP, hK, hD0, hN⟩, hX⟩ := hv
  have hx := B.exec
  have hb := B.bytes
  have hr := B.returns
  have hts := atoms_spec (ws := ws_TileForge_mode) B.pre
  have hown : s.vm.findClass "TileForge" = some m.cls := findClass_of_methodNamed B.named
  have hlocks := B.notSynchronized
  subst hsz
  have hD := hD0.self (sz := s.heap.size)
  generalize hAe : va_A [(f0, .inr (8, [.ref a1, .ref c1, .ref r1, .ref y1, .ref k1, .ref j1, .int ibc, .int ilc, .int igl, .int ibk, .int ifa, .int ibd])), (r1, .inr (5, [.ref r2, .ref r3, .int vzr, .int vwr, .int vhr, .int vkr])), (r2, .inl (cI, 144, .inl pxr)), (r3, .inl (cI, 9, .inl mdr))] s.heap.size = A at hD ⊢
  have hA : ∀ q : Nat, s.heap.size ≤ q → A q := fun q h => by rw [← hAe]; exact Or.inr h
  have hS : va_S A s.heap s.heap [] := va_S.rf
  have hP : va_P D vwCl [(f0, .inr (8, [.ref a1, .ref c1, .ref r1, .ref y1, .ref k1, .ref j1, .int ibc, .int ilc, .int igl, .int ibk, .int ifa, .int ibd])), (r1, .inr (5, [.ref r2, .ref r3, .int vzr, .int vwr, .int vhr, .int vkr])), (r2, .inl (cI, 144, .inl pxr)), (r3, .inl (cI, 9, .inl mdr))] s.heap := hP
  have hP0 := hP
  have hl := lv_entry ([.ref f0, .int 1, .int k]) (n := 4) (Nat.le_of_ble_eq_true rfl)
  rw [lg_entry_eq]
  generalize (lg_sl ([.ref f0, .int 1, .int k]) ++ List.replicate (4 - (lg_sl ([.ref f0, .int 1, .int k])).length) Slot.unset).toArray = ls at hl ⊢
  have hl : lv_has ls 4 [(0, .ref f0), (1, .int 1), (2, .int k)] := hl
  refine lv_iload_n hx hb d_TileForge_mode_0 rfl (lv_at hl 1 rfl) ?_
  refine lv_if_eq (tgt := 11) hx hb d_TileForge_mode_1 (by decide) (fun c_1 => ?_) (fun c_1 => ?_)
  · exact absurd c_1 (by decide)
  · refine lv_aload_n hx hb d_TileForge_mode_4 rfl (lv_at hl 0 rfl) ?_
    refine va_get (D := D) (ci := 8) (v := .ref r1) (C := "TileForge") (T := T_TileForge) (N := 12) hx hb hts (cs_in in_TileForge) hown hK hP 0 rfl rfl 2 (by decide) (hts _ (cs_m mw_475)) (fun _ h9 => h9) rfl d_TileForge_mode_5 ?_
    refine lv_goto (tgt := 15) hx hb d_TileForge_mode_8 (by decide) ?_
    refine lv_astore_n (lv' := [(3, .ref r1), (0, .ref f0), (1, .int 1), (2, .int k)]) hx hb d_TileForge_mode_15 rfl hl (by decide) rfl (fun ls hl => ?_)
    refine lv_aload_n hx hb d_TileForge_mode_16 rfl (lv_at hl 0 rfl) ?_
    refine lv_iload_n hx hb d_TileForge_mode_17 rfl (lv_at hl 3 rfl) ?_
    refine cs_Vi (As := [.int k]) (rest := []) (wr := [(f0, .inr (8, [.ref a1, .ref c1, .ref r1, .ref y1, .ref k1, .ref j1, .int ibc, .int ilc, .int igl, .int ibk, .int ifa, .int ibd]))]) ⟨hx, hb, hml, hown, hts⟩ (c_pic_hasMode l hcI r1 r2 r3 pxr mdr vzr vwr vhr vkr k) (cwV 1 hts (cs_gV mw_528 mw_529 mw_530 mw_93 mw_98) rfl rfl rfl ⟨rfl, hd_Picture_hasMode⟩ ⟨Nat.le_of_ble_eq_true rfl, Nat.le_of_ble_eq_true rfl⟩) hN hK hP hD hS hA [1, 2, 3] [0] rfl rfl rfl rfl (by decide) (ci := 5) rfl rfl rfl rfl rfl hl.1 (Nat.le_of_ble_eq_true rfl) d_TileForge_mode_18 ⟨Nat.le_of_ble_eq_true rfl, Nat.le_of_ble_eq_true rfl⟩ (fun r1 w1 H locs hw hP hD hS => ?_)
    obtain ⟨rfl, rfl⟩ := hw
    have hP : va_P D vwCl [(f0, .inr (8, [.ref a1, .ref c1, .ref r1, .ref y1, .ref k1, .ref j1, .int ibc, .int ilc, .int igl, .int ibk, .int ifa, .int ibd])), (r1, .inr (5, [.ref r2, .ref r3, .int vzr, .int vwr, .int vhr, .int vkr])), (r2, .inl (cI, 144, .inl pxr)), (r3, .inl (cI, 9, .inl mdr))] H := hP
    have hD : va_D A [(f0, .inr (8, [.ref a1, .ref c1, .ref r1, .ref y1, .ref k1, .ref j1, .int ibc, .int ilc, .int igl, .int ibk, .int ifa, .int ibd])), (r1, .inr (5, [.ref r2, .ref r3, .int vzr, .int vwr, .int vhr, .int vkr])), (r2, .inl (cI, 144, .inl pxr)), (r3, .inl (cI, 9, .inl mdr))] := hD
    refine lv_if_ne (tgt := 32) hx hb d_TileForge_mode_21 (by decide) (fun c_21 => ?_) (fun c_21 => ?_)
    · have c_21 := cs_b1 c_21
      exact absurd c_21 hbad
    · have c_21 := cs_b0 c_21
      exact cx_thr (ix := 61) (ic := 63) (E := "java/lang/IndexOutOfBoundsException") (post := (q_tf_modeRB cI f0 a1 c1 r1 y1 k1 j1 ibc ilc igl ibk ifa ibd r2 r3 pxr mdr vzr vwr vhr vkr k)) hx hb hst (hl.1.trans hml.symm) B.named hts hown hX hP0 hAe mw_570 mw_571 mw_572 oa_IOB fi_IOB hK hP hD hS hlocks (Nat.le_of_ble_eq_true rfl) (Nat.le_of_ble_eq_true rfl) (Nat.le_of_ble_eq_true rfl) (Nat.le_of_ble_eq_true rfl) (Nat.le_of_ble_eq_true rfl) (Nat.le_of_ble_eq_true rfl) d_TileForge_mode_24 d_TileForge_mode_27 d_TileForge_mode_28 d_TileForge_mode_31  (show _ = _ from rfl)
def q_tf_modeCB (cI : ClassId) (f0 : Nat) (a1 : Nat) (c1 : Nat) (r1 : Nat) (y1 : Nat) (k1 : Nat) (j1 : Nat) (ibc : Int32) (ilc : Int32) (igl : Int32) (ibk : Int32) (ifa : Int32) (ibd : Int32) (c2 : Nat) (c3 : Nat) (pxc : Nat → Int32) (mdc : Nat → Int32) (vzc : Int32) (vwc : Int32) (vhc : Int32) (vkc : Int32) (k : Int32) : va_W → Prop := fun ww => ww = [(f0, .inr (8, [.ref a1, .ref c1, .ref r1, .ref y1, .ref k1, .ref j1, .int ibc, .int ilc, .int igl, .int ibk, .int ifa, .int ibd])), (c1, .inr (5, [.ref c2, .ref c3, .int vzc, .int vwc, .int vhc, .int vkc])), (c2, .inl (cI, 144, .inl pxc)), (c3, .inl (cI, 9, .inl mdc))]
set_option maxHeartbeats 4000000 in
set_option maxRecDepth 100000 in
theorem c_tf_modeCB (l : Launch) (hst : l.stackTraces = false) {D : va_G} {tys : List (ClassId × FieldType)} {cI : ClassId} (hcI : tys[0]? = some (cI, .int)) (f0 : Nat) (a1 : Nat) (c1 : Nat) (r1 : Nat) (y1 : Nat) (k1 : Nat) (j1 : Nat) (ibc : Int32) (ilc : Int32) (igl : Int32) (ibk : Int32) (ifa : Int32) (ibd : Int32) (c2 : Nat) (c3 : Nat) (pxc : Nat → Int32) (mdc : Nat → Int32) (vzc : Int32) (vwc : Int32) (vhc : Int32) (vkc : Int32) (k : Int32) (hbad : ¬ (¬ k < 0 ∧ ¬ vkc ≤ k ∧ ¬ 9 ≤ k)) : CxE l D vwCl tys y_TileForge_mode ws_TileForge_mode ({ frames := 6, cells := 1, slots := 6, locals := 81 } : Room) [.ref f0, .int 0, .int k] [(f0, .inr (8, [.ref a1, .ref c1, .ref r1, .ref y1, .ref k1, .ref j1, .int ibc, .int ilc, .int igl, .int ibk, .int ifa, .int ibd])), (c1, .inr (5, [.ref c2, .ref c3, .int vzc, .int vwc, .int vhc, .int vkc])), (c2, .inl (cI, 144, .inl pxc)), (c3, .inl (cI, 9, .inl mdc))] (q_tf_modeCB cI f0 a1 c1 r1 y1 k1 j1 ibc ilc igl ibk ifa ibd c2 c3 pxc mdc vzc vwc vhc vkc k) "java/lang/IndexOutOfBoundsException" 1 6 := by
  intro sz
  refine cx_ofW (cc := prog_1_method_12_code) (maxL := 4) (ret := (some .int)) (by decide) rfl ?_
  intro p e s m args below meth c s₁ B hml hv
  obtain ⟨rfl, ⟨hsz, hP, hK, hD0, hN⟩, hX⟩ := hv
  have hx := B.exec
  have hb := B.bytes
  have hr := B.returns
  have hts := atoms_spec (ws := ws_TileForge_mode) B.pre
  have hown : s.vm.findClass "TileForge" = some m.cls := findClass_of_methodNamed B.named
  have hlocks := B.notSynchronized
  subst hsz
  have hD := hD0.self (sz := s.heap.size)
  generalize hAe : va_A [(f0, .inr (8, [.ref a1, .ref c1, .ref r1, .ref y1, .ref k1, .ref j1, .int ibc, .int ilc, .int igl, .int ibk, .int ifa, .int ibd])), (c1, .inr (5, [.ref c2, .ref c3, .int vzc, .int vwc, .int vhc, .int vkc])), (c2, .inl (cI, 144, .inl pxc)), (c3, .inl (cI, 9, .inl mdc))] s.heap.size = A at hD ⊢
  have hA : ∀ q : Nat, s.heap.size ≤ q → A q := fun q h => by rw [← hAe]; exact Or.inr h
  have hS : va_S A s.heap s.heap [] := va_S.rf
  have hP : va_P D vwCl [(f0, .inr (8, [.ref a1, .ref c1, .ref r1, .ref y1, .ref k1, .ref j1, .int ibc, .int ilc, .int igl, .int ibk, .int ifa, .int ibd])), (c1, .inr (5, [.ref c2, .ref c3, .int vzc, .int vwc, .int vhc, .int vkc])), (c2, .inl (cI, 144, .inl pxc)), (c3, .inl (cI, 9, .inl mdc))] s.heap := hP
  have hP0 := hP
  have hl := lv_entry ([.ref f0, .int 0, .int k]) (n := 4) (Nat.le_of_ble_eq_true rfl)
  rw [lg_entry_eq]
  generalize (lg_sl ([.ref f0, .int 0, .int k]) ++ List.replicate (4 - (lg_sl ([.ref f0, .int 0, .int k])).length) Slot.unset).toArray = ls at hl ⊢
  have hl : lv_has ls 4 [(0, .ref f0), (1, .int 0), (2, .int k)] := hl
  refine lv_iload_n hx hb d_TileForge_mode_0 rfl (lv_at hl 1 rfl) ?_
  refine lv_if_eq (tgt := 11) hx hb d_TileForge_mode_1 (by decide) (fun c_1 => ?_) (fun c_1 => ?_)
  · refine lv_aload_n hx hb d_TileForge_mode_11 rfl (lv_at hl 0 rfl) ?_
    refine va_get (D := D) (ci := 8) (v := .ref c1) (C := "TileForge") (T := T_TileForge) (N := 12) hx hb hts (cs_in in_TileForge) hown hK hP 0 rfl rfl 1 (by decide) (hts _ (cs_m mw_474)) (fun _ h9 => h9) rfl d_TileForge_mode_12 ?_
    refine lv_astore_n (lv' := [(3, .ref c1), (0, .ref f0), (1, .int 0), (2, .int k)]) hx hb d_TileForge_mode_15 rfl hl (by decide) rfl (fun ls hl => ?_)
    refine lv_aload_n hx hb d_TileForge_mode_16 rfl (lv_at hl 0 rfl) ?_
    refine lv_iload_n hx hb d_TileForge_mode_17 rfl (lv_at hl 3 rfl) ?_
    refine cs_Vi (As := [.int k]) (rest := []) (wr := [(f0, .inr (8, [.ref a1, .ref c1, .ref r1, .ref y1, .ref k1, .ref j1, .int ibc, .int ilc, .int igl, .int ibk, .int ifa, .int ibd]))]) ⟨hx, hb, hml, hown, hts⟩ (c_pic_hasMode l hcI c1 c2 c3 pxc mdc vzc vwc vhc vkc k) (cwV 1 hts (cs_gV mw_528 mw_529 mw_530 mw_93 mw_98) rfl rfl rfl ⟨rfl, hd_Picture_hasMode⟩ ⟨Nat.le_of_ble_eq_true rfl, Nat.le_of_ble_eq_true rfl⟩) hN hK hP hD hS hA [1, 2, 3] [0] rfl rfl rfl rfl (by decide) (ci := 5) rfl rfl rfl rfl rfl hl.1 (Nat.le_of_ble_eq_true rfl) d_TileForge_mode_18 ⟨Nat.le_of_ble_eq_true rfl, Nat.le_of_ble_eq_true rfl⟩ (fun r1 w1 H locs hw hP hD hS => ?_)
    obtain ⟨rfl, rfl⟩ := hw
    have hP : va_P D vwCl [(f0, .inr (8, [.ref a1, .ref c1, .ref r1, .ref y1, .ref k1, .ref j1, .int ibc, .int ilc, .int igl, .int ibk, .int ifa, .int ibd])), (c1, .inr (5, [.ref c2, .ref c3, .int vzc, .int vwc, .int vhc, .int vkc])), (c2, .inl (cI, 144, .inl pxc)), (c3, .inl (cI, 9, .inl mdc))] H := hP
    have hD : va_D A [(f0, .inr (8, [.ref a1, .ref c1, .ref r1, .ref y1, .ref k1, .ref j1, .int ibc, .int ilc, .int igl, .int ibk, .int ifa, .int ibd])), (c1, .inr (5, [.ref c2, .ref c3, .int vzc, .int vwc, .int vhc, .int vkc])), (c2, .inl (cI, 144, .inl pxc)), (c3, .inl (cI, 9, .inl mdc))] := hD
    refine lv_if_ne (tgt := 32) hx hb d_TileForge_mode_21 (by decide) (fun c_21 => ?_) (fun c_21 => ?_)
    · have c_21 := cs_b1 c_21
      exact absurd c_21 hbad
    · have c_21 := cs_b0 c_21
      exact cx_thr (ix := 61) (ic := 63) (E := "java/lang/IndexOutOfBoundsException") (post := (q_tf_modeCB cI f0 a1 c1 r1 y1 k1 j1 ibc ilc igl ibk ifa ibd c2 c3 pxc mdc vzc vwc vhc vkc k)) hx hb hst (hl.1.trans hml.symm) B.named hts hown hX hP0 hAe mw_570 mw_571 mw_572 oa_IOB fi_IOB hK hP hD hS hlocks (Nat.le_of_ble_eq_true rfl) (Nat.le_of_ble_eq_true rfl) (Nat.le_of_ble_eq_true rfl) (Nat.le_of_ble_eq_true rfl) (Nat.le_of_ble_eq_true rfl) (Nat.le_of_ble_eq_true rfl) d_TileForge_mode_24 d_TileForge_mode_27 d_TileForge_mode_28 d_TileForge_mode_31  (show _ = _ from rfl)
  · exact absurd c_1 (by decide)
def q_tf_countB (cI : ClassId) (f0 : Nat) (a1 : Nat) (c1 : Nat) (r1 : Nat) (y1 : Nat) (k1 : Nat) (j1 : Nat) (ibc : Int32) (ilc : Int32) (igl : Int32) (ibk : Int32) (ifa : Int32) (ibd : Int32) (wt : Int32) : va_W → Prop := fun ww => ww = [(f0, .inr (8, [.ref a1, .ref c1, .ref r1, .ref y1, .ref k1, .ref j1, .int ibc, .int ilc, .int igl, .int ibk, .int ifa, .int ibd]))]
set_option maxHeartbeats 4000000 in
set_option maxRecDepth 100000 in
theorem c_tf_countB (l : Launch) (hst : l.stackTraces = false) {D : va_G} {tys : List (ClassId × FieldType)} {cI : ClassId} (hcI : tys[0]? = some (cI, .int)) (f0 : Nat) (a1 : Nat) (c1 : Nat) (r1 : Nat) (y1 : Nat) (k1 : Nat) (j1 : Nat) (ibc : Int32) (ilc : Int32) (igl : Int32) (ibk : Int32) (ifa : Int32) (ibd : Int32) (wt : Int32) (hwt : ¬ (¬ wt < 0 ∧ ¬ 7 < wt)) : CxE l D vwCl tys y_TileForge_count ws_TileForge_count ({ frames := 6, cells := 1, slots := 6, locals := 81 } : Room) [.ref f0, .int wt] [(f0, .inr (8, [.ref a1, .ref c1, .ref r1, .ref y1, .ref k1, .ref j1, .int ibc, .int ilc, .int igl, .int ibk, .int ifa, .int ibd]))] (q_tf_countB cI f0 a1 c1 r1 y1 k1 j1 ibc ilc igl ibk ifa ibd wt) "java/lang/IllegalArgumentException" 1 6 := by
  intro sz
  refine cx_ofW (cc := prog_1_method_13_code) (maxL := 2) (ret := (some .int)) (by decide) rfl ?_
  intro p e s m args below meth c s₁ B hml hv
  obtain ⟨rfl, ⟨hsz, hP, hK, hD0, hN⟩, hX⟩ := hv
  have hx := B.exec
  have hb := B.bytes
  have hr := B.returns
  have hts := atoms_spec (ws := ws_TileForge_count) B.pre
  have hown : s.vm.findClass "TileForge" = some m.cls := findClass_of_methodNamed B.named
  have hlocks := B.notSynchronized
  subst hsz
  have hD := hD0.self (sz := s.heap.size)
  generalize hAe : va_A [(f0, .inr (8, [.ref a1, .ref c1, .ref r1, .ref y1, .ref k1, .ref j1, .int ibc, .int ilc, .int igl, .int ibk, .int ifa, .int ibd]))] s.heap.size = A at hD ⊢
  have hA : ∀ q : Nat, s.heap.size ≤ q → A q := fun q h => by rw [← hAe]; exact Or.inr h
  have hS : va_S A s.heap s.heap [] := va_S.rf
  have hP : va_P D vwCl [(f0, .inr (8, [.ref a1, .ref c1, .ref r1, .ref y1, .ref k1, .ref j1, .int ibc, .int ilc, .int igl, .int ibk, .int ifa, .int ibd]))] s.heap := hP
  have hP0 := hP
  have hl := lv_entry ([.ref f0, .int wt]) (n := 2) (Nat.le_of_ble_eq_true rfl)
  rw [lg_entry_eq]
  generalize (lg_sl ([.ref f0, .int wt]) ++ List.replicate (2 - (lg_sl ([.ref f0, .int wt])).length) Slot.unset).toArray = ls at hl ⊢
  have hl : lv_has ls 2 [(0, .ref f0), (1, .int wt)] := hl
  refine lv_iload_n hx hb d_TileForge_count_0 rfl (lv_at hl 1 rfl) ?_
  by_cases s_1_0 : wt = 0
  · refine cs_tin (k := 0) (tgt := 48) hx hb d_TileForge_count_1 s_1_0 (by decide) (by decide) rfl (by decide) ?_
    exact absurd (show ¬ wt < 0 ∧ ¬ 7 < wt by rw [s_1_0]; decide) hwt
  by_cases s_1_1 : wt = 1
  · refine cs_tin (k := 1) (tgt := 56) hx hb d_TileForge_count_1 s_1_1 (by decide) (by decide) rfl (by decide) ?_
    exact absurd (show ¬ wt < 0 ∧ ¬ 7 < wt by rw [s_1_1]; decide) hwt
  by_cases s_1_2 : wt = 2
  · refine cs_tin (k := 2) (tgt := 64) hx hb d_TileForge_count_1 s_1_2 (by decide) (by decide) rfl (by decide) ?_
    exact absurd (show ¬ wt < 0 ∧ ¬ 7 < wt by rw [s_1_2]; decide) hwt
  by_cases s_1_3 : wt = 3
  · refine cs_tin (k := 3) (tgt := 69) hx hb d_TileForge_count_1 s_1_3 (by decide) (by decide) rfl (by decide) ?_
    exact absurd (show ¬ wt < 0 ∧ ¬ 7 < wt by rw [s_1_3]; decide) hwt
  by_cases s_1_4 : wt = 4
  · refine cs_tin (k := 4) (tgt := 74) hx hb d_TileForge_count_1 s_1_4 (by decide) (by decide) rfl (by decide) ?_
    exact absurd (show ¬ wt < 0 ∧ ¬ 7 < wt by rw [s_1_4]; decide) hwt
  by_cases s_1_5 : wt = 5
  · refine cs_tin (k := 5) (tgt := 79) hx hb d_TileForge_count_1 s_1_5 (by decide) (by decide) rfl (by decide) ?_
    exact absurd (show ¬ wt < 0 ∧ ¬ 7 < wt by rw [s_1_5]; decide) hwt
  by_cases s_1_6 : wt = 6
  · refine cs_tin (k := 6) (tgt := 84) hx hb d_TileForge_count_1 s_1_6 (by decide) (by decide) rfl (by decide) ?_
    exact absurd (show ¬ wt < 0 ∧ ¬ 7 < wt by rw [s_1_6]; decide) hwt
  by_cases s_1_7 : wt = 7
  · refine cs_tin (k := 7) (tgt := 89) hx hb d_TileForge_count_1 s_1_7 (by decide) (by decide) rfl (by decide) ?_
    exact absurd (show ¬ wt < 0 ∧ ¬ 7 < wt by rw [s_1_7]; decide) hwt
  refine lv_tableOut (tgt := 94) hx hb d_TileForge_count_1 (by have h0 := lv_neT s_1_0 (a := 0) rfl; have h1 := lv_neT s_1_1 (a := 1) rfl; have h2 := lv_neT s_1_2 (a := 2) rfl; have h3 := lv_neT s_1_3 (a := 3) rfl; have h4 := lv_neT s_1_4 (a := 4) rfl; have h5 := lv_neT s_1_5 (a := 5) rfl; have h6 := lv_neT s_1_6 (a := 6) rfl; have h7 := lv_neT s_1_7 (a := 7) rfl; omega) (by decide) ?_
  exact cx_thr (ix := 51) (ic := 53) (E := "java/lang/IllegalArgumentException") (post := (q_tf_countB cI f0 a1 c1 r1 y1 k1 j1 ibc ilc igl ibk ifa ibd wt)) hx hb hst (hl.1.trans hml.symm) B.named hts hown hX hP0 hAe mw_567 mw_568 mw_569 oa_IAE fi_IAE hK hP hD hS hlocks (Nat.le_of_ble_eq_true rfl) (Nat.le_of_ble_eq_true rfl) (Nat.le_of_ble_eq_true rfl) (Nat.le_of_ble_eq_true rfl) (Nat.le_of_ble_eq_true rfl) (Nat.le_of_ble_eq_true rfl) d_TileForge_count_94 d_TileForge_count_97 d_TileForge_count_98 d_TileForge_count_101  (show _ = _ from rfl)
def q_tf_encodeC (cI : ClassId) (f0 : Nat) (a1 : Nat) (c1 : Nat) (r1 : Nat) (y1 : Nat) (k1 : Nat) (j1 : Nat) (ibc : Int32) (ilc : Int32) (igl : Int32) (ibk : Int32) (ifa : Int32) (ibd : Int32) (d1 : Nat) (d2 : Nat) (d3 : Nat) (pxd : Nat → Int32) (mdd : Nat → Int32) (vzd : Int32) (vwd : Int32) (vhd : Int32) (vkd : Int32) (x1 : Nat) (x2 : Nat) (bt : Nat → Int32) (nb : Nat) (b1 : Nat) (b2 : Nat) (b3 : Nat) (b4 : Nat) (b5 : Nat) (b6 : Nat) (ab : Nat → Int32) (lf : Nat → Int32) (fo : Nat → Int32) (lv : Nat → Int32) (wk : Nat → Int32) (vr : Int32) (vc : Int32) (vcr : Int32) (z1 : Nat) (t1 : Nat) (vs : Int32) (vn : Int32) (t2 : Nat) (vs2 : Int32) (vn2 : Int32) (nz : Int32) (gr : Int32) (a2 : Nat) (a3 : Nat) (px : Nat → Int32) (md : Nat → Int32) (vz : Int32) (vk : Int32) (cw : Nat) (ch : Nat) (q : Int32) : va_W → Prop := fun ww => ∃ (px0 : Nat → Int32) (bt0 : Nat → Int32) (ab' : Nat → Int32) (lf' : Nat → Int32) (fo' : Nat → Int32) (lv' : Nat → Int32) (wk' : Nat → Int32) (vr' : Int32) (vc' : Int32) (cr' : Int32), (∀ j, j < 144 → px0 j = 0) ∧ (∀ j, j < 400 → bt0 j = 0) ∧ ww = [(f0, .inr (8, [.ref a1, .ref c1, .ref r1, .ref y1, .ref k1, .ref j1, .int ibc, .int ilc, .int igl, .int ibk, .int ifa, .int ibd])), (k1, .inr (3, [.ref d1, .ref x1, .ref b1, .ref z1, .int ((mdS px cw q (px0, mdd, wrF q 8 (wrF (nI ch) 8 (wrF (nI cw) 8 bt0 0) 8) 16, 24, 8, 1, 8, 1, 0, 0) (cw * ch)).2.2.2.2.2.2.2.2.1), .int ((mdS px cw q (px0, mdd, wrF q 8 (wrF (nI ch) 8 (wrF (nI cw) 8 bt0 0) 8) 16, 24, 8, 1, 8, 1, 0, 0) (cw * ch)).2.2.2.2.2.2.2.2.2)])), (d1, .inr (5, [.ref d2, .ref d3, .int 1, .int (nI (4 * cw)), .int (nI (4 * ch)), .int (nI (cw * ch))])), (d2, .inl (cI, 144, .inl ((mdS px cw q (px0, mdd, wrF q 8 (wrF (nI ch) 8 (wrF (nI cw) 8 bt0 0) 8) 16, 24, 8, 1, 8, 1, 0, 0) (cw * ch)).1))), (d3, .inl (cI, 9, .inl ((mdS px cw q (px0, mdd, wrF q 8 (wrF (nI ch) 8 (wrF (nI cw) 8 bt0 0) 8) 16, 24, 8, 1, 8, 1, 0, 0) (cw * ch)).2.1))), (x1, .inr (0, [.ref x2, .int (nI (mdS px cw q (px0, mdd, wrF q 8 (wrF (nI ch) 8 (wrF (nI cw) 8 bt0 0) 8) 16, 24, 8, 1, 8, 1, 0, 0) (cw * ch)).2.2.2.1)])), (x2, .inl (cI, 400, .inl ((mdS px cw q (px0, mdd, wrF q 8 (wrF (nI ch) 8 (wrF (nI cw) 8 bt0 0) 8) 16, 24, 8, 1, 8, 1, 0, 0) (cw * ch)).2.2.1))), (b1, .inr (1, [.ref b2, .ref b3, .ref b4, .ref b5, .ref b6, .int vr', .int vc', .int cr'])), (b2, .inl (cI, 4, .inl ab')), (b3, .inl (cI, 4, .inl lf')), (b4, .inl (cI, 16, .inl fo')), (b5, .inl (cI, 16, .inl lv')), (b6, .inl (cI, 16, .inl wk')), (z1, .inr (4, [.ref t1, .ref t2])), (t1, .inr (7, [.int ((mdS px cw q (px0, mdd, wrF q 8 (wrF (nI ch) 8 (wrF (nI cw) 8 bt0 0) 8) 16, 24, 8, 1, 8, 1, 0, 0) (cw * ch)).2.2.2.2.1), .int ((mdS px cw q (px0, mdd, wrF q 8 (wrF (nI ch) 8 (wrF (nI cw) 8 bt0 0) 8) 16, 24, 8, 1, 8, 1, 0, 0) (cw * ch)).2.2.2.2.2.1)])), (t2, .inr (7, [.int ((mdS px cw q (px0, mdd, wrF q 8 (wrF (nI ch) 8 (wrF (nI cw) 8 bt0 0) 8) 16, 24, 8, 1, 8, 1, 0, 0) (cw * ch)).2.2.2.2.2.2.1), .int ((mdS px cw q (px0, mdd, wrF q 8 (wrF (nI ch) 8 (wrF (nI cw) 8 bt0 0) 8) 16, 24, 8, 1, 8, 1, 0, 0) (cw * ch)).2.2.2.2.2.2.2.1)])), (a1, .inr (5, [.ref a2, .ref a3, .int vz, .int (nI (4 * cw)), .int (nI (4 * ch)), .int vk])), (a2, .inl (cI, 144, .inl px)), (a3, .inl (cI, 9, .inl md))]
set_option maxHeartbeats 4000000 in
set_option maxRecDepth 100000 in
theorem c_tf_encodeC (l : Launch) (hst : l.stackTraces = false) {D : va_G} {tys : List (ClassId × FieldType)} {cI : ClassId} (hcI : tys[0]? = some (cI, .int)) (f0 : Nat) (a1 : Nat) (c1 : Nat) (r1 : Nat) (y1 : Nat) (k1 : Nat) (j1 : Nat) (ibc : Int32) (ilc : Int32) (igl : Int32) (ibk : Int32) (ifa : Int32) (ibd : Int32) (d1 : Nat) (d2 : Nat) (d3 : Nat) (pxd : Nat → Int32) (mdd : Nat → Int32) (vzd : Int32) (vwd : Int32) (vhd : Int32) (vkd : Int32) (x1 : Nat) (x2 : Nat) (bt : Nat → Int32) (nb : Nat) (b1 : Nat) (b2 : Nat) (b3 : Nat) (b4 : Nat) (b5 : Nat) (b6 : Nat) (ab : Nat → Int32) (lf : Nat → Int32) (fo : Nat → Int32) (lv : Nat → Int32) (wk : Nat → Int32) (vr : Int32) (vc : Int32) (vcr : Int32) (z1 : Nat) (t1 : Nat) (vs : Int32) (vn : Int32) (t2 : Nat) (vs2 : Int32) (vn2 : Int32) (nz : Int32) (gr : Int32) (a2 : Nat) (a3 : Nat) (px : Nat → Int32) (md : Nat → Int32) (vz : Int32) (vk : Int32) (cw : Nat) (ch : Nat) (q : Int32) (hcw : cw ≤ 3) (hch : ch ≤ 3) (hpo : PR px) (hq : coarP q) (hlong : ∀ px0 bt0 : Nat → Int32, (∀ j, j < 144 → px0 j = 0) → (∀ j, j < 400 → bt0 j = 0) → ¬ ((mdS px cw q (px0, mdd, wrF q 8 (wrF (nI ch) 8 (wrF (nI cw) 8 bt0 0) 8) 16, 24, 8, 1, 8, 1, 0, 0) (cw * ch)).2.2.2.1 + 7) / 8 ≤ 400) : CxE l D vwCl tys y_TileForge_encode ws_TileForge_encode ({ frames := 6, cells := 1, slots := 6, locals := 145 } : Room) [.ref f0, .int q] [(f0, .inr (8, [.ref a1, .ref c1, .ref r1, .ref y1, .ref k1, .ref j1, .int ibc, .int ilc, .int igl, .int ibk, .int ifa, .int ibd])), (k1, .inr (3, [.ref d1, .ref x1, .ref b1, .ref z1, .int nz, .int gr])), (d1, .inr (5, [.ref d2, .ref d3, .int vzd, .int vwd, .int vhd, .int vkd])), (d2, .inl (cI, 144, .inl pxd)), (d3, .inl (cI, 9, .inl mdd)), (x1, .inr (0, [.ref x2, .int (nI nb)])), (x2, .inl (cI, 400, .inl bt)), (b1, .inr (1, [.ref b2, .ref b3, .ref b4, .ref b5, .ref b6, .int vr, .int vc, .int vcr])), (b2, .inl (cI, 4, .inl ab)), (b3, .inl (cI, 4, .inl lf)), (b4, .inl (cI, 16, .inl fo)), (b5, .inl (cI, 16, .inl lv)), (b6, .inl (cI, 16, .inl wk)), (z1, .inr (4, [.ref t1, .ref t2])), (t1, .inr (7, [.int vs, .int vn])), (t2, .inr (7, [.int vs2, .int vn2])), (a1, .inr (5, [.ref a2, .ref a3, .int vz, .int (nI (4 * cw)), .int (nI (4 * ch)), .int vk])), (a2, .inl (cI, 144, .inl px)), (a3, .inl (cI, 9, .inl md))] (q_tf_encodeC cI f0 a1 c1 r1 y1 k1 j1 ibc ilc igl ibk ifa ibd d1 d2 d3 pxd mdd vzd vwd vhd vkd x1 x2 bt nb b1 b2 b3 b4 b5 b6 ab lf fo lv wk vr vc vcr z1 t1 vs vn t2 vs2 vn2 nz gr a2 a3 px md vz vk cw ch q) "java/lang/IllegalStateException" 1 6 := by
  intro sz
  refine cx_ofW (cc := prog_1_method_5_code) (maxL := 2) (ret := (some .int)) (by decide) rfl ?_
  intro p e s m args below meth c s₁ B hml hv
  obtain ⟨rfl, ⟨hsz, hP, hK, hD0, hN⟩, hX⟩ := hv
  have hx := B.exec
  have hb := B.bytes
  have hr := B.returns
  have hts := atoms_spec (ws := ws_TileForge_encode) B.pre
  have hown : s.vm.findClass "TileForge" = some m.cls := findClass_of_methodNamed B.named
  have hlocks := B.notSynchronized
  subst hsz
  have hD := hD0.self (sz := s.heap.size)
  generalize hAe : va_A [(f0, .inr (8, [.ref a1, .ref c1, .ref r1, .ref y1, .ref k1, .ref j1, .int ibc, .int ilc, .int igl, .int ibk, .int ifa, .int ibd])), (k1, .inr (3, [.ref d1, .ref x1, .ref b1, .ref z1, .int nz, .int gr])), (d1, .inr (5, [.ref d2, .ref d3, .int vzd, .int vwd, .int vhd, .int vkd])), (d2, .inl (cI, 144, .inl pxd)), (d3, .inl (cI, 9, .inl mdd)), (x1, .inr (0, [.ref x2, .int (nI nb)])), (x2, .inl (cI, 400, .inl bt)), (b1, .inr (1, [.ref b2, .ref b3, .ref b4, .ref b5, .ref b6, .int vr, .int vc, .int vcr])), (b2, .inl (cI, 4, .inl ab)), (b3, .inl (cI, 4, .inl lf)), (b4, .inl (cI, 16, .inl fo)), (b5, .inl (cI, 16, .inl lv)), (b6, .inl (cI, 16, .inl wk)), (z1, .inr (4, [.ref t1, .ref t2])), (t1, .inr (7, [.int vs, .int vn])), (t2, .inr (7, [.int vs2, .int vn2])), (a1, .inr (5, [.ref a2, .ref a3, .int vz, .int (nI (4 * cw)), .int (nI (4 * ch)), .int vk])), (a2, .inl (cI, 144, .inl px)), (a3, .inl (cI, 9, .inl md))] s.heap.size = A at hD ⊢
  have hA : ∀ q : Nat, s.heap.size ≤ q → A q := fun q h => by rw [← hAe]; exact Or.inr h
  have hS : va_S A s.heap s.heap [] := va_S.rf
  have hP : va_P D vwCl [(f0, .inr (8, [.ref a1, .ref c1, .ref r1, .ref y1, .ref k1, .ref j1, .int ibc, .int ilc, .int igl, .int ibk, .int ifa, .int ibd])), (k1, .inr (3, [.ref d1, .ref x1, .ref b1, .ref z1, .int nz, .int gr])), (d1, .inr (5, [.ref d2, .ref d3, .int vzd, .int vwd, .int vhd, .int vkd])), (d2, .inl (cI, 144, .inl pxd)), (d3, .inl (cI, 9, .inl mdd)), (x1, .inr (0, [.ref x2, .int (nI nb)])), (x2, .inl (cI, 400, .inl bt)), (b1, .inr (1, [.ref b2, .ref b3, .ref b4, .ref b5, .ref b6, .int vr, .int vc, .int vcr])), (b2, .inl (cI, 4, .inl ab)), (b3, .inl (cI, 4, .inl lf)), (b4, .inl (cI, 16, .inl fo)), (b5, .inl (cI, 16, .inl lv)), (b6, .inl (cI, 16, .inl wk)), (z1, .inr (4, [.ref t1, .ref t2])), (t1, .inr (7, [.int vs, .int vn])), (t2, .inr (7, [.int vs2, .int vn2])), (a1, .inr (5, [.ref a2, .ref a3, .int vz, .int (nI (4 * cw)), .int (nI (4 * ch)), .int vk])), (a2, .inl (cI, 144, .inl px)), (a3, .inl (cI, 9, .inl md))] s.heap := hP
  have hP0 := hP
  have hl := lv_entry ([.ref f0, .int q]) (n := 2) (Nat.le_of_ble_eq_true rfl)
  rw [lg_entry_eq]
  generalize (lg_sl ([.ref f0, .int q]) ++ List.replicate (2 - (lg_sl ([.ref f0, .int q])).length) Slot.unset).toArray = ls at hl ⊢
  have hl : lv_has ls 2 [(0, .ref f0), (1, .int q)] := hl
  have h99 : cw * ch ≤ 3 * 3 := Nat.mul_le_mul hcw hch
  refine lv_iload_n hx hb d_TileForge_encode_0 rfl (lv_at hl 1 rfl) ?_
  refine cs_Si (As := [.int q]) (rest := []) (wr := [(f0, .inr (8, [.ref a1, .ref c1, .ref r1, .ref y1, .ref k1, .ref j1, .int ibc, .int ilc, .int igl, .int ibk, .int ifa, .int ibd])), (k1, .inr (3, [.ref d1, .ref x1, .ref b1, .ref z1, .int nz, .int gr])), (d1, .inr (5, [.ref d2, .ref d3, .int vzd, .int vwd, .int vhd, .int vkd])), (d2, .inl (cI, 144, .inl pxd)), (d3, .inl (cI, 9, .inl mdd)), (x1, .inr (0, [.ref x2, .int (nI nb)])), (x2, .inl (cI, 400, .inl bt)), (b1, .inr (1, [.ref b2, .ref b3, .ref b4, .ref b5, .ref b6, .int vr, .int vc, .int vcr])), (b2, .inl (cI, 4, .inl ab)), (b3, .inl (cI, 4, .inl lf)), (b4, .inl (cI, 16, .inl fo)), (b5, .inl (cI, 16, .inl lv)), (b6, .inl (cI, 16, .inl wk)), (z1, .inr (4, [.ref t1, .ref t2])), (t1, .inr (7, [.int vs, .int vn])), (t2, .inr (7, [.int vs2, .int vn2])), (a1, .inr (5, [.ref a2, .ref a3, .int vz, .int (nI (4 * cw)), .int (nI (4 * ch)), .int vk])), (a2, .inl (cI, 144, .inl px)), (a3, .inl (cI, 9, .inl md))]) ⟨hx, hb, hml, hown, hts⟩ (c_isCoarseness l hcI q) (va_cwS 1 hts (cs_gS mw_547 mw_141 mw_139 mw_76) rfl rfl rfl hd_TileForge_isCoarseness ⟨Nat.le_of_ble_eq_true rfl, Nat.le_of_ble_eq_true rfl⟩) hN hK hP hD hS hA [] [0, 1, 2, 3, 4, 5, 6, 7, 8, 9, 10, 11, 12, 13, 14, 15, 16, 17, 18] rfl rfl rfl rfl (by decide) rfl rfl hl.1 (Nat.le_of_ble_eq_true rfl) d_TileForge_encode_1 ⟨Nat.le_of_ble_eq_true rfl, Nat.le_of_ble_eq_true rfl⟩ (fun r1 w1 H locs hw hP hD hS => ?_)
  obtain ⟨rfl, rfl⟩ := hw
  have hP : va_P D vwCl [(f0, .inr (8, [.ref a1, .ref c1, .ref r1, .ref y1, .ref k1, .ref j1, .int ibc, .int ilc, .int igl, .int ibk, .int ifa, .int ibd])), (k1, .inr (3, [.ref d1, .ref x1, .ref b1, .ref z1, .int nz, .int gr])), (d1, .inr (5, [.ref d2, .ref d3, .int vzd, .int vwd, .int vhd, .int vkd])), (d2, .inl (cI, 144, .inl pxd)), (d3, .inl (cI, 9, .inl mdd)), (x1, .inr (0, [.ref x2, .int (nI nb)])), (x2, .inl (cI, 400, .inl bt)), (b1, .inr (1, [.ref b2, .ref b3, .ref b4, .ref b5, .ref b6, .int vr, .int vc, .int vcr])), (b2, .inl (cI, 4, .inl ab)), (b3, .inl (cI, 4, .inl lf)), (b4, .inl (cI, 16, .inl fo)), (b5, .inl (cI, 16, .inl lv)), (b6, .inl (cI, 16, .inl wk)), (z1, .inr (4, [.ref t1, .ref t2])), (t1, .inr (7, [.int vs, .int vn])), (t2, .inr (7, [.int vs2, .int vn2])), (a1, .inr (5, [.ref a2, .ref a3, .int vz, .int (nI (4 * cw)), .int (nI (4 * ch)), .int vk])), (a2, .inl (cI, 144, .inl px)), (a3, .inl (cI, 9, .inl md))] H := hP
  have hD : va_D A [(f0, .inr (8, [.ref a1, .ref c1, .ref r1, .ref y1, .ref k1, .ref j1, .int ibc, .int ilc, .int igl, .int ibk, .int ifa, .int ibd])), (k1, .inr (3, [.ref d1, .ref x1, .ref b1, .ref z1, .int nz, .int gr])), (d1, .inr (5, [.ref d2, .ref d3, .int vzd, .int vwd, .int vhd, .int vkd])), (d2, .inl (cI, 144, .inl pxd)), (d3, .inl (cI, 9, .inl mdd)), (x1, .inr (0, [.ref x2, .int (nI nb)])), (x2, .inl (cI, 400, .inl bt)), (b1, .inr (1, [.ref b2, .ref b3, .ref b4, .ref b5, .ref b6, .int vr, .int vc, .int vcr])), (b2, .inl (cI, 4, .inl ab)), (b3, .inl (cI, 4, .inl lf)), (b4, .inl (cI, 16, .inl fo)), (b5, .inl (cI, 16, .inl lv)), (b6, .inl (cI, 16, .inl wk)), (z1, .inr (4, [.ref t1, .ref t2])), (t1, .inr (7, [.int vs, .int vn])), (t2, .inr (7, [.int vs2, .int vn2])), (a1, .inr (5, [.ref a2, .ref a3, .int vz, .int (nI (4 * cw)), .int (nI (4 * ch)), .int vk])), (a2, .inl (cI, 144, .inl px)), (a3, .inl (cI, 9, .inl md))] := hD
  refine lv_if_ne (tgt := 15) hx hb d_TileForge_encode_4 (by decide) (fun c_4 => ?_) (fun c_4 => ?_)
  · have c_4 := cs_b1 c_4
    refine lv_aload_n hx hb d_TileForge_encode_15 rfl (lv_at hl 0 rfl) ?_
    refine va_get (D := D) (ci := 8) (v := .ref k1) (C := "TileForge") (T := T_TileForge) (N := 12) hx hb hts (cs_in in_TileForge) hown hK hP 0 rfl rfl 4 (by decide) (hts _ (cs_m mw_481)) (fun _ h9 => h9) rfl d_TileForge_encode_16 ?_
    refine lv_aload_n hx hb d_TileForge_encode_19 rfl (lv_at hl 0 rfl) ?_
    refine va_get (D := D) (ci := 8) (v := .ref a1) (C := "TileForge") (T := T_TileForge) (N := 12) hx hb hts (cs_in in_TileForge) hown hK hP 0 rfl rfl 0 (by decide) (hts _ (cs_m mw_473)) (fun _ h9 => h9) rfl d_TileForge_encode_20 ?_
    refine lv_iload_n hx hb d_TileForge_encode_23 rfl (lv_at hl 1 rfl) ?_
    refine cs_Vv (As := [.ref a1, .int q]) (rest := []) (wr := [(f0, .inr (8, [.ref a1, .ref c1, .ref r1, .ref y1, .ref k1, .ref j1, .int ibc, .int ilc, .int igl, .int ibk, .int ifa, .int ibd]))]) ⟨hx, hb, hml, hown, hts⟩ (c_co_draft l hcI k1 d1 d2 d3 pxd mdd vzd vwd vhd vkd x1 x2 bt nb b1 b2 b3 b4 b5 b6 ab lf fo lv wk vr vc vcr z1 t1 vs vn t2 vs2 vn2 nz gr a1 a2 a3 px md vz vk cw ch q (hcw) (hch) (hpo) (hq)) (cwV 2 hts (cs_gV mw_548 mw_549 mw_550 mw_274 mw_312) rfl rfl rfl ⟨rfl, hd_Coder_makeDraft⟩ ⟨Nat.le_of_ble_eq_true rfl, Nat.le_of_ble_eq_true rfl⟩) hN hK hP hD hS hA [1, 2, 3, 4, 5, 6, 7, 8, 9, 10, 11, 12, 13, 14, 15, 16, 17, 18] [0] rfl rfl rfl rfl (by decide) (ci := 3) rfl rfl rfl rfl rfl hl.1 (Nat.le_of_ble_eq_true rfl) d_TileForge_encode_24 ⟨Nat.le_of_ble_eq_true rfl, Nat.le_of_ble_eq_true rfl⟩ (fun w1 H locs hw hP hD hS => ?_)
    obtain ⟨px09, bt09, ab9, lf9, fo9, lv9, wk9, vr9, vc9, cr9, hz9, hz8, rfl⟩ := hw
    have hP : va_P D vwCl [(f0, .inr (8, [.ref a1, .ref c1, .ref r1, .ref y1, .ref k1, .ref j1, .int ibc, .int ilc, .int igl, .int ibk, .int ifa, .int ibd])), (k1, .inr (3, [.ref d1, .ref x1, .ref b1, .ref z1, .int ((mdS px cw q (px09, mdd, wrF q 8 (wrF (nI ch) 8 (wrF (nI cw) 8 bt09 0) 8) 16, 24, 8, 1, 8, 1, 0, 0) (cw * ch)).2.2.2.2.2.2.2.2.1), .int ((mdS px cw q (px09, mdd, wrF q 8 (wrF (nI ch) 8 (wrF (nI cw) 8 bt09 0) 8) 16, 24, 8, 1, 8, 1, 0, 0) (cw * ch)).2.2.2.2.2.2.2.2.2)])), (d1, .inr (5, [.ref d2, .ref d3, .int 1, .int (nI (4 * cw)), .int (nI (4 * ch)), .int (nI (cw * ch))])), (d2, .inl (cI, 144, .inl ((mdS px cw q (px09, mdd, wrF q 8 (wrF (nI ch) 8 (wrF (nI cw) 8 bt09 0) 8) 16, 24, 8, 1, 8, 1, 0, 0) (cw * ch)).1))), (d3, .inl (cI, 9, .inl ((mdS px cw q (px09, mdd, wrF q 8 (wrF (nI ch) 8 (wrF (nI cw) 8 bt09 0) 8) 16, 24, 8, 1, 8, 1, 0, 0) (cw * ch)).2.1))), (x1, .inr (0, [.ref x2, .int (nI (mdS px cw q (px09, mdd, wrF q 8 (wrF (nI ch) 8 (wrF (nI cw) 8 bt09 0) 8) 16, 24, 8, 1, 8, 1, 0, 0) (cw * ch)).2.2.2.1)])), (x2, .inl (cI, 400, .inl ((mdS px cw q (px09, mdd, wrF q 8 (wrF (nI ch) 8 (wrF (nI cw) 8 bt09 0) 8) 16, 24, 8, 1, 8, 1, 0, 0) (cw * ch)).2.2.1))), (b1, .inr (1, [.ref b2, .ref b3, .ref b4, .ref b5, .ref b6, .int vr9, .int vc9, .int cr9])), (b2, .inl (cI, 4, .inl ab9)), (b3, .inl (cI, 4, .inl lf9)), (b4, .inl (cI, 16, .inl fo9)), (b5, .inl (cI, 16, .inl lv9)), (b6, .inl (cI, 16, .inl wk9)), (z1, .inr (4, [.ref t1, .ref t2])), (t1, .inr (7, [.int ((mdS px cw q (px09, mdd, wrF q 8 (wrF (nI ch) 8 (wrF (nI cw) 8 bt09 0) 8) 16, 24, 8, 1, 8, 1, 0, 0) (cw * ch)).2.2.2.2.1), .int ((mdS px cw q (px09, mdd, wrF q 8 (wrF (nI ch) 8 (wrF (nI cw) 8 bt09 0) 8) 16, 24, 8, 1, 8, 1, 0, 0) (cw * ch)).2.2.2.2.2.1)])), (t2, .inr (7, [.int ((mdS px cw q (px09, mdd, wrF q 8 (wrF (nI ch) 8 (wrF (nI cw) 8 bt09 0) 8) 16, 24, 8, 1, 8, 1, 0, 0) (cw * ch)).2.2.2.2.2.2.1), .int ((mdS px cw q (px09, mdd, wrF q 8 (wrF (nI ch) 8 (wrF (nI cw) 8 bt09 0) 8) 16, 24, 8, 1, 8, 1, 0, 0) (cw * ch)).2.2.2.2.2.2.2.1)])), (a1, .inr (5, [.ref a2, .ref a3, .int vz, .int (nI (4 * cw)), .int (nI (4 * ch)), .int vk])), (a2, .inl (cI, 144, .inl px)), (a3, .inl (cI, 9, .inl md))] H := hP
    have hD : va_D A [(f0, .inr (8, [.ref a1, .ref c1, .ref r1, .ref y1, .ref k1, .ref j1, .int ibc, .int ilc, .int igl, .int ibk, .int ifa, .int ibd])), (k1, .inr (3, [.ref d1, .ref x1, .ref b1, .ref z1, .int ((mdS px cw q (px09, mdd, wrF q 8 (wrF (nI ch) 8 (wrF (nI cw) 8 bt09 0) 8) 16, 24, 8, 1, 8, 1, 0, 0) (cw * ch)).2.2.2.2.2.2.2.2.1), .int ((mdS px cw q (px09, mdd, wrF q 8 (wrF (nI ch) 8 (wrF (nI cw) 8 bt09 0) 8) 16, 24, 8, 1, 8, 1, 0, 0) (cw * ch)).2.2.2.2.2.2.2.2.2)])), (d1, .inr (5, [.ref d2, .ref d3, .int 1, .int (nI (4 * cw)), .int (nI (4 * ch)), .int (nI (cw * ch))])), (d2, .inl (cI, 144, .inl ((mdS px cw q (px09, mdd, wrF q 8 (wrF (nI ch) 8 (wrF (nI cw) 8 bt09 0) 8) 16, 24, 8, 1, 8, 1, 0, 0) (cw * ch)).1))), (d3, .inl (cI, 9, .inl ((mdS px cw q (px09, mdd, wrF q 8 (wrF (nI ch) 8 (wrF (nI cw) 8 bt09 0) 8) 16, 24, 8, 1, 8, 1, 0, 0) (cw * ch)).2.1))), (x1, .inr (0, [.ref x2, .int (nI (mdS px cw q (px09, mdd, wrF q 8 (wrF (nI ch) 8 (wrF (nI cw) 8 bt09 0) 8) 16, 24, 8, 1, 8, 1, 0, 0) (cw * ch)).2.2.2.1)])), (x2, .inl (cI, 400, .inl ((mdS px cw q (px09, mdd, wrF q 8 (wrF (nI ch) 8 (wrF (nI cw) 8 bt09 0) 8) 16, 24, 8, 1, 8, 1, 0, 0) (cw * ch)).2.2.1))), (b1, .inr (1, [.ref b2, .ref b3, .ref b4, .ref b5, .ref b6, .int vr9, .int vc9, .int cr9])), (b2, .inl (cI, 4, .inl ab9)), (b3, .inl (cI, 4, .inl lf9)), (b4, .inl (cI, 16, .inl fo9)), (b5, .inl (cI, 16, .inl lv9)), (b6, .inl (cI, 16, .inl wk9)), (z1, .inr (4, [.ref t1, .ref t2])), (t1, .inr (7, [.int ((mdS px cw q (px09, mdd, wrF q 8 (wrF (nI ch) 8 (wrF (nI cw) 8 bt09 0) 8) 16, 24, 8, 1, 8, 1, 0, 0) (cw * ch)).2.2.2.2.1), .int ((mdS px cw q (px09, mdd, wrF q 8 (wrF (nI ch) 8 (wrF (nI cw) 8 bt09 0) 8) 16, 24, 8, 1, 8, 1, 0, 0) (cw * ch)).2.2.2.2.2.1)])), (t2, .inr (7, [.int ((mdS px cw q (px09, mdd, wrF q 8 (wrF (nI ch) 8 (wrF (nI cw) 8 bt09 0) 8) 16, 24, 8, 1, 8, 1, 0, 0) (cw * ch)).2.2.2.2.2.2.1), .int ((mdS px cw q (px09, mdd, wrF q 8 (wrF (nI ch) 8 (wrF (nI cw) 8 bt09 0) 8) 16, 24, 8, 1, 8, 1, 0, 0) (cw * ch)).2.2.2.2.2.2.2.1)])), (a1, .inr (5, [.ref a2, .ref a3, .int vz, .int (nI (4 * cw)), .int (nI (4 * ch)), .int vk])), (a2, .inl (cI, 144, .inl px)), (a3, .inl (cI, 9, .inl md))] := hD
    have hf9 := hlong px09 bt09 hz9 hz8
    have hm9 : (mdS px cw q (px09, mdd, wrF q 8 (wrF (nI ch) 8 (wrF (nI cw) 8 bt09 0) 8) 16, 24, 8, 1, 8, 1, 0, 0) (cw * ch)).2.2.2.1 ≤ 24 + 423 * (cw * ch) := mdS_le _ _ _ _ _
    refine lv_aload_n hx hb d_TileForge_encode_27 rfl (lv_at hl 0 rfl) ?_
    refine va_get (D := D) (ci := 8) (v := .ref k1) (C := "TileForge") (T := T_TileForge) (N := 12) hx hb hts (cs_in in_TileForge) hown hK hP 0 rfl rfl 4 (by decide) (hts _ (cs_m mw_481)) (fun _ h9 => h9) rfl d_TileForge_encode_28 ?_
    refine va_get (D := D) (ci := 3) (v := .ref x1) (C := "TileForge$Coder") (T := T_Coder) (N := 6) hx hb hts (cs_in in_Coder) hown hK hP 1 rfl rfl 1 (by decide) (hts _ (cs_m mw_487)) (fun _ h9 => h9) rfl d_TileForge_encode_31 ?_
    refine cs_Vi (As := []) (rest := []) (wr := [(f0, .inr (8, [.ref a1, .ref c1, .ref r1, .ref y1, .ref k1, .ref j1, .int ibc, .int ilc, .int igl, .int ibk, .int ifa, .int ibd])), (k1, .inr (3, [.ref d1, .ref x1, .ref b1, .ref z1, .int ((mdS px cw q (px09, mdd, wrF q 8 (wrF (nI ch) 8 (wrF (nI cw) 8 bt09 0) 8) 16, 24, 8, 1, 8, 1, 0, 0) (cw * ch)).2.2.2.2.2.2.2.2.1), .int ((mdS px cw q (px09, mdd, wrF q 8 (wrF (nI ch) 8 (wrF (nI cw) 8 bt09 0) 8) 16, 24, 8, 1, 8, 1, 0, 0) (cw * ch)).2.2.2.2.2.2.2.2.2)])), (d1, .inr (5, [.ref d2, .ref d3, .int 1, .int (nI (4 * cw)), .int (nI (4 * ch)), .int (nI (cw * ch))])), (d2, .inl (cI, 144, .inl ((mdS px cw q (px09, mdd, wrF q 8 (wrF (nI ch) 8 (wrF (nI cw) 8 bt09 0) 8) 16, 24, 8, 1, 8, 1, 0, 0) (cw * ch)).1))), (d3, .inl (cI, 9, .inl ((mdS px cw q (px09, mdd, wrF q 8 (wrF (nI ch) 8 (wrF (nI cw) 8 bt09 0) 8) 16, 24, 8, 1, 8, 1, 0, 0) (cw * ch)).2.1))), (b1, .inr (1, [.ref b2, .ref b3, .ref b4, .ref b5, .ref b6, .int vr9, .int vc9, .int cr9])), (b2, .inl (cI, 4, .inl ab9)), (b3, .inl (cI, 4, .inl lf9)), (b4, .inl (cI, 16, .inl fo9)), (b5, .inl (cI, 16, .inl lv9)), (b6, .inl (cI, 16, .inl wk9)), (z1, .inr (4, [.ref t1, .ref t2])), (t1, .inr (7, [.int ((mdS px cw q (px09, mdd, wrF q 8 (wrF (nI ch) 8 (wrF (nI cw) 8 bt09 0) 8) 16, 24, 8, 1, 8, 1, 0, 0) (cw * ch)).2.2.2.2.1), .int ((mdS px cw q (px09, mdd, wrF q 8 (wrF (nI ch) 8 (wrF (nI cw) 8 bt09 0) 8) 16, 24, 8, 1, 8, 1, 0, 0) (cw * ch)).2.2.2.2.2.1)])), (t2, .inr (7, [.int ((mdS px cw q (px09, mdd, wrF q 8 (wrF (nI ch) 8 (wrF (nI cw) 8 bt09 0) 8) 16, 24, 8, 1, 8, 1, 0, 0) (cw * ch)).2.2.2.2.2.2.1), .int ((mdS px cw q (px09, mdd, wrF q 8 (wrF (nI ch) 8 (wrF (nI cw) 8 bt09 0) 8) 16, 24, 8, 1, 8, 1, 0, 0) (cw * ch)).2.2.2.2.2.2.2.1)])), (a1, .inr (5, [.ref a2, .ref a3, .int vz, .int (nI (4 * cw)), .int (nI (4 * ch)), .int vk])), (a2, .inl (cI, 144, .inl px)), (a3, .inl (cI, 9, .inl md))]) ⟨hx, hb, hml, hown, hts⟩ (c_bw_need l hcI x1 x2 ((mdS px cw q (px09, mdd, wrF q 8 (wrF (nI ch) 8 (wrF (nI cw) 8 bt09 0) 8) 16, 24, 8, 1, 8, 1, 0, 0) (cw * ch)).2.2.1) ((mdS px cw q (px09, mdd, wrF q 8 (wrF (nI ch) 8 (wrF (nI cw) 8 bt09 0) 8) 16, 24, 8, 1, 8, 1, 0, 0) (cw * ch)).2.2.2.1) (by omega)) (cwV 0 hts (cs_gV mw_551 mw_146 mw_147 mw_119 mw_123) rfl rfl rfl ⟨rfl, hd_BitWriter_bytesNeeded⟩ ⟨Nat.le_of_ble_eq_true rfl, Nat.le_of_ble_eq_true rfl⟩) hN hK hP hD hS hA [5, 6] [0, 1, 2, 3, 4, 7, 8, 9, 10, 11, 12, 13, 14, 15, 16, 17, 18] rfl rfl rfl rfl (by decide) (ci := 0) rfl rfl rfl rfl rfl hl.1 (Nat.le_of_ble_eq_true rfl) d_TileForge_encode_34 ⟨Nat.le_of_ble_eq_true rfl, Nat.le_of_ble_eq_true rfl⟩ (fun r3 w1 H locs hw hP hD hS => ?_)
    obtain ⟨rfl, rfl⟩ := hw
    have hP : va_P D vwCl [(f0, .inr (8, [.ref a1, .ref c1, .ref r1, .ref y1, .ref k1, .ref j1, .int ibc, .int ilc, .int igl, .int ibk, .int ifa, .int ibd])), (k1, .inr (3, [.ref d1, .ref x1, .ref b1, .ref z1, .int ((mdS px cw q (px09, mdd, wrF q 8 (wrF (nI ch) 8 (wrF (nI cw) 8 bt09 0) 8) 16, 24, 8, 1, 8, 1, 0, 0) (cw * ch)).2.2.2.2.2.2.2.2.1), .int ((mdS px cw q (px09, mdd, wrF q 8 (wrF (nI ch) 8 (wrF (nI cw) 8 bt09 0) 8) 16, 24, 8, 1, 8, 1, 0, 0) (cw * ch)).2.2.2.2.2.2.2.2.2)])), (d1, .inr (5, [.ref d2, .ref d3, .int 1, .int (nI (4 * cw)), .int (nI (4 * ch)), .int (nI (cw * ch))])), (d2, .inl (cI, 144, .inl ((mdS px cw q (px09, mdd, wrF q 8 (wrF (nI ch) 8 (wrF (nI cw) 8 bt09 0) 8) 16, 24, 8, 1, 8, 1, 0, 0) (cw * ch)).1))), (d3, .inl (cI, 9, .inl ((mdS px cw q (px09, mdd, wrF q 8 (wrF (nI ch) 8 (wrF (nI cw) 8 bt09 0) 8) 16, 24, 8, 1, 8, 1, 0, 0) (cw * ch)).2.1))), (b1, .inr (1, [.ref b2, .ref b3, .ref b4, .ref b5, .ref b6, .int vr9, .int vc9, .int cr9])), (b2, .inl (cI, 4, .inl ab9)), (b3, .inl (cI, 4, .inl lf9)), (b4, .inl (cI, 16, .inl fo9)), (b5, .inl (cI, 16, .inl lv9)), (b6, .inl (cI, 16, .inl wk9)), (z1, .inr (4, [.ref t1, .ref t2])), (t1, .inr (7, [.int ((mdS px cw q (px09, mdd, wrF q 8 (wrF (nI ch) 8 (wrF (nI cw) 8 bt09 0) 8) 16, 24, 8, 1, 8, 1, 0, 0) (cw * ch)).2.2.2.2.1), .int ((mdS px cw q (px09, mdd, wrF q 8 (wrF (nI ch) 8 (wrF (nI cw) 8 bt09 0) 8) 16, 24, 8, 1, 8, 1, 0, 0) (cw * ch)).2.2.2.2.2.1)])), (t2, .inr (7, [.int ((mdS px cw q (px09, mdd, wrF q 8 (wrF (nI ch) 8 (wrF (nI cw) 8 bt09 0) 8) 16, 24, 8, 1, 8, 1, 0, 0) (cw * ch)).2.2.2.2.2.2.1), .int ((mdS px cw q (px09, mdd, wrF q 8 (wrF (nI ch) 8 (wrF (nI cw) 8 bt09 0) 8) 16, 24, 8, 1, 8, 1, 0, 0) (cw * ch)).2.2.2.2.2.2.2.1)])), (a1, .inr (5, [.ref a2, .ref a3, .int vz, .int (nI (4 * cw)), .int (nI (4 * ch)), .int vk])), (a2, .inl (cI, 144, .inl px)), (a3, .inl (cI, 9, .inl md)), (x1, .inr (0, [.ref x2, .int (nI ((mdS px cw q (px09, mdd, wrF q 8 (wrF (nI ch) 8 (wrF (nI cw) 8 bt09 0) 8) 16, 24, 8, 1, 8, 1, 0, 0) (cw * ch)).2.2.2.1))])), (x2, .inl (cI, 400, .inl ((mdS px cw q (px09, mdd, wrF q 8 (wrF (nI ch) 8 (wrF (nI cw) 8 bt09 0) 8) 16, 24, 8, 1, 8, 1, 0, 0) (cw * ch)).2.2.1)))] H := hP
    have hD : va_D A [(f0, .inr (8, [.ref a1, .ref c1, .ref r1, .ref y1, .ref k1, .ref j1, .int ibc, .int ilc, .int igl, .int ibk, .int ifa, .int ibd])), (k1, .inr (3, [.ref d1, .ref x1, .ref b1, .ref z1, .int ((mdS px cw q (px09, mdd, wrF q 8 (wrF (nI ch) 8 (wrF (nI cw) 8 bt09 0) 8) 16, 24, 8, 1, 8, 1, 0, 0) (cw * ch)).2.2.2.2.2.2.2.2.1), .int ((mdS px cw q (px09, mdd, wrF q 8 (wrF (nI ch) 8 (wrF (nI cw) 8 bt09 0) 8) 16, 24, 8, 1, 8, 1, 0, 0) (cw * ch)).2.2.2.2.2.2.2.2.2)])), (d1, .inr (5, [.ref d2, .ref d3, .int 1, .int (nI (4 * cw)), .int (nI (4 * ch)), .int (nI (cw * ch))])), (d2, .inl (cI, 144, .inl ((mdS px cw q (px09, mdd, wrF q 8 (wrF (nI ch) 8 (wrF (nI cw) 8 bt09 0) 8) 16, 24, 8, 1, 8, 1, 0, 0) (cw * ch)).1))), (d3, .inl (cI, 9, .inl ((mdS px cw q (px09, mdd, wrF q 8 (wrF (nI ch) 8 (wrF (nI cw) 8 bt09 0) 8) 16, 24, 8, 1, 8, 1, 0, 0) (cw * ch)).2.1))), (b1, .inr (1, [.ref b2, .ref b3, .ref b4, .ref b5, .ref b6, .int vr9, .int vc9, .int cr9])), (b2, .inl (cI, 4, .inl ab9)), (b3, .inl (cI, 4, .inl lf9)), (b4, .inl (cI, 16, .inl fo9)), (b5, .inl (cI, 16, .inl lv9)), (b6, .inl (cI, 16, .inl wk9)), (z1, .inr (4, [.ref t1, .ref t2])), (t1, .inr (7, [.int ((mdS px cw q (px09, mdd, wrF q 8 (wrF (nI ch) 8 (wrF (nI cw) 8 bt09 0) 8) 16, 24, 8, 1, 8, 1, 0, 0) (cw * ch)).2.2.2.2.1), .int ((mdS px cw q (px09, mdd, wrF q 8 (wrF (nI ch) 8 (wrF (nI cw) 8 bt09 0) 8) 16, 24, 8, 1, 8, 1, 0, 0) (cw * ch)).2.2.2.2.2.1)])), (t2, .inr (7, [.int ((mdS px cw q (px09, mdd, wrF q 8 (wrF (nI ch) 8 (wrF (nI cw) 8 bt09 0) 8) 16, 24, 8, 1, 8, 1, 0, 0) (cw * ch)).2.2.2.2.2.2.1), .int ((mdS px cw q (px09, mdd, wrF q 8 (wrF (nI ch) 8 (wrF (nI cw) 8 bt09 0) 8) 16, 24, 8, 1, 8, 1, 0, 0) (cw * ch)).2.2.2.2.2.2.2.1)])), (a1, .inr (5, [.ref a2, .ref a3, .int vz, .int (nI (4 * cw)), .int (nI (4 * ch)), .int vk])), (a2, .inl (cI, 144, .inl px)), (a3, .inl (cI, 9, .inl md)), (x1, .inr (0, [.ref x2, .int (nI ((mdS px cw q (px09, mdd, wrF q 8 (wrF (nI ch) 8 (wrF (nI cw) 8 bt09 0) 8) 16, 24, 8, 1, 8, 1, 0, 0) (cw * ch)).2.2.2.1))])), (x2, .inl (cI, 400, .inl ((mdS px cw q (px09, mdd, wrF q 8 (wrF (nI ch) 8 (wrF (nI cw) 8 bt09 0) 8) 16, 24, 8, 1, 8, 1, 0, 0) (cw * ch)).2.2.1)))] := hD
    refine lv_sipush (v := 400) hx hb d_TileForge_encode_37 (by decide) ?_
    refine lv_icmp_le (tgt := 51) hx hb d_TileForge_encode_40 (by decide) (fun c_40 => ?_) (fun c_40 => ?_)
    · exact absurd ((nI_leI (a := ((mdS px cw q (px09, mdd, wrF q 8 (wrF (nI ch) 8 (wrF (nI cw) 8 bt09 0) 8) 16, 24, 8, 1, 8, 1, 0, 0) (cw * ch)).2.2.2.1 + 7) / 8) (b := 400) (by omega) (by decide)).mp c_40) hf9
    · have hP := hP.sub (ws' := [(f0, .inr (8, [.ref a1, .ref c1, .ref r1, .ref y1, .ref k1, .ref j1, .int ibc, .int ilc, .int igl, .int ibk, .int ifa, .int ibd])), (k1, .inr (3, [.ref d1, .ref x1, .ref b1, .ref z1, .int ((mdS px cw q (px09, mdd, wrF q 8 (wrF (nI ch) 8 (wrF (nI cw) 8 bt09 0) 8) 16, 24, 8, 1, 8, 1, 0, 0) (cw * ch)).2.2.2.2.2.2.2.2.1), .int ((mdS px cw q (px09, mdd, wrF q 8 (wrF (nI ch) 8 (wrF (nI cw) 8 bt09 0) 8) 16, 24, 8, 1, 8, 1, 0, 0) (cw * ch)).2.2.2.2.2.2.2.2.2)])), (d1, .inr (5, [.ref d2, .ref d3, .int 1, .int (nI (4 * cw)), .int (nI (4 * ch)), .int (nI (cw * ch))])), (d2, .inl (cI, 144, .inl ((mdS px cw q (px09, mdd, wrF q 8 (wrF (nI ch) 8 (wrF (nI cw) 8 bt09 0) 8) 16, 24, 8, 1, 8, 1, 0, 0) (cw * ch)).1))), (d3, .inl (cI, 9, .inl ((mdS px cw q (px09, mdd, wrF q 8 (wrF (nI ch) 8 (wrF (nI cw) 8 bt09 0) 8) 16, 24, 8, 1, 8, 1, 0, 0) (cw * ch)).2.1))), (x1, .inr (0, [.ref x2, .int (nI ((mdS px cw q (px09, mdd, wrF q 8 (wrF (nI ch) 8 (wrF (nI cw) 8 bt09 0) 8) 16, 24, 8, 1, 8, 1, 0, 0) (cw * ch)).2.2.2.1))])), (x2, .inl (cI, 400, .inl ((mdS px cw q (px09, mdd, wrF q 8 (wrF (nI ch) 8 (wrF (nI cw) 8 bt09 0) 8) 16, 24, 8, 1, 8, 1, 0, 0) (cw * ch)).2.2.1))), (b1, .inr (1, [.ref b2, .ref b3, .ref b4, .ref b5, .ref b6, .int vr9, .int vc9, .int cr9])), (b2, .inl (cI, 4, .inl ab9)), (b3, .inl (cI, 4, .inl lf9)), (b4, .inl (cI, 16, .inl fo9)), (b5, .inl (cI, 16, .inl lv9)), (b6, .inl (cI, 16, .inl wk9)), (z1, .inr (4, [.ref t1, .ref t2])), (t1, .inr (7, [.int ((mdS px cw q (px09, mdd, wrF q 8 (wrF (nI ch) 8 (wrF (nI cw) 8 bt09 0) 8) 16, 24, 8, 1, 8, 1, 0, 0) (cw * ch)).2.2.2.2.1), .int ((mdS px cw q (px09, mdd, wrF q 8 (wrF (nI ch) 8 (wrF (nI cw) 8 bt09 0) 8) 16, 24, 8, 1, 8, 1, 0, 0) (cw * ch)).2.2.2.2.2.1)])), (t2, .inr (7, [.int ((mdS px cw q (px09, mdd, wrF q 8 (wrF (nI ch) 8 (wrF (nI cw) 8 bt09 0) 8) 16, 24, 8, 1, 8, 1, 0, 0) (cw * ch)).2.2.2.2.2.2.1), .int ((mdS px cw q (px09, mdd, wrF q 8 (wrF (nI ch) 8 (wrF (nI cw) 8 bt09 0) 8) 16, 24, 8, 1, 8, 1, 0, 0) (cw * ch)).2.2.2.2.2.2.2.1)])), (a1, .inr (5, [.ref a2, .ref a3, .int vz, .int (nI (4 * cw)), .int (nI (4 * ch)), .int vk])), (a2, .inl (cI, 144, .inl px)), (a3, .inl (cI, 9, .inl md))]) [0, 1, 2, 3, 4, 17, 18, 5, 6, 7, 8, 9, 10, 11, 12, 13, 14, 15, 16] rfl
      have hD := hD.sub (ws' := [(f0, .inr (8, [.ref a1, .ref c1, .ref r1, .ref y1, .ref k1, .ref j1, .int ibc, .int ilc, .int igl, .int ibk, .int ifa, .int ibd])), (k1, .inr (3, [.ref d1, .ref x1, .ref b1, .ref z1, .int ((mdS px cw q (px09, mdd, wrF q 8 (wrF (nI ch) 8 (wrF (nI cw) 8 bt09 0) 8) 16, 24, 8, 1, 8, 1, 0, 0) (cw * ch)).2.2.2.2.2.2.2.2.1), .int ((mdS px cw q (px09, mdd, wrF q 8 (wrF (nI ch) 8 (wrF (nI cw) 8 bt09 0) 8) 16, 24, 8, 1, 8, 1, 0, 0) (cw * ch)).2.2.2.2.2.2.2.2.2)])), (d1, .inr (5, [.ref d2, .ref d3, .int 1, .int (nI (4 * cw)), .int (nI (4 * ch)), .int (nI (cw * ch))])), (d2, .inl (cI, 144, .inl ((mdS px cw q (px09, mdd, wrF q 8 (wrF (nI ch) 8 (wrF (nI cw) 8 bt09 0) 8) 16, 24, 8, 1, 8, 1, 0, 0) (cw * ch)).1))), (d3, .inl (cI, 9, .inl ((mdS px cw q (px09, mdd, wrF q 8 (wrF (nI ch) 8 (wrF (nI cw) 8 bt09 0) 8) 16, 24, 8, 1, 8, 1, 0, 0) (cw * ch)).2.1))), (x1, .inr (0, [.ref x2, .int (nI ((mdS px cw q (px09, mdd, wrF q 8 (wrF (nI ch) 8 (wrF (nI cw) 8 bt09 0) 8) 16, 24, 8, 1, 8, 1, 0, 0) (cw * ch)).2.2.2.1))])), (x2, .inl (cI, 400, .inl ((mdS px cw q (px09, mdd, wrF q 8 (wrF (nI ch) 8 (wrF (nI cw) 8 bt09 0) 8) 16, 24, 8, 1, 8, 1, 0, 0) (cw * ch)).2.2.1))), (b1, .inr (1, [.ref b2, .ref b3, .ref b4, .ref b5, .ref b6, .int vr9, .int vc9, .int cr9])), (b2, .inl (cI, 4, .inl ab9)), (b3, .inl (cI, 4, .inl lf9)), (b4, .inl (cI, 16, .inl fo9)), (b5, .inl (cI, 16, .inl lv9)), (b6, .inl (cI, 16, .inl wk9)), (z1, .inr (4, [.ref t1, .ref t2])), (t1, .inr (7, [.int ((mdS px cw q (px09, mdd, wrF q 8 (wrF (nI ch) 8 (wrF (nI cw) 8 bt09 0) 8) 16, 24, 8, 1, 8, 1, 0, 0) (cw * ch)).2.2.2.2.1), .int ((mdS px cw q (px09, mdd, wrF q 8 (wrF (nI ch) 8 (wrF (nI cw) 8 bt09 0) 8) 16, 24, 8, 1, 8, 1, 0, 0) (cw * ch)).2.2.2.2.2.1)])), (t2, .inr (7, [.int ((mdS px cw q (px09, mdd, wrF q 8 (wrF (nI ch) 8 (wrF (nI cw) 8 bt09 0) 8) 16, 24, 8, 1, 8, 1, 0, 0) (cw * ch)).2.2.2.2.2.2.1), .int ((mdS px cw q (px09, mdd, wrF q 8 (wrF (nI ch) 8 (wrF (nI cw) 8 bt09 0) 8) 16, 24, 8, 1, 8, 1, 0, 0) (cw * ch)).2.2.2.2.2.2.2.1)])), (a1, .inr (5, [.ref a2, .ref a3, .int vz, .int (nI (4 * cw)), .int (nI (4 * ch)), .int vk])), (a2, .inl (cI, 144, .inl px)), (a3, .inl (cI, 9, .inl md))]) [0, 1, 2, 3, 4, 17, 18, 5, 6, 7, 8, 9, 10, 11, 12, 13, 14, 15, 16] (by decide) rfl
      exact cx_thr (ix := 103) (ic := 105) (E := "java/lang/IllegalStateException") (post := (q_tf_encodeC cI f0 a1 c1 r1 y1 k1 j1 ibc ilc igl ibk ifa ibd d1 d2 d3 pxd mdd vzd vwd vhd vkd x1 x2 bt nb b1 b2 b3 b4 b5 b6 ab lf fo lv wk vr vc vcr z1 t1 vs vn t2 vs2 vn2 nz gr a2 a3 px md vz vk cw ch q)) hx hb hst (hl.1.trans hml.symm) B.named hts hown hX hP0 hAe mw_576 mw_577 mw_578 oa_ISE fi_ISE hK hP hD hS hlocks (Nat.le_of_ble_eq_true rfl) (Nat.le_of_ble_eq_true rfl) (Nat.le_of_ble_eq_true rfl) (Nat.le_of_ble_eq_true rfl) (Nat.le_of_ble_eq_true rfl) (Nat.le_of_ble_eq_true rfl) d_TileForge_encode_43 d_TileForge_encode_46 d_TileForge_encode_47 d_TileForge_encode_50  ⟨px09, bt09, ab9, lf9, fo9, lv9, wk9, vr9, vc9, cr9, (hz9), (hz8), rfl⟩
  · have c_4 := cs_b0 c_4
    exact absurd hq c_4
