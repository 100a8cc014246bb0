def y_TileForge_size : MethodName := ⟨"TileForge", "size", "(II)I"⟩
def ws_TileForge_size : List Cond := .code y_TileForge_size prog_1_method_2_code 3 (some .int) :: GW
theorem mw_497 : (.code ⟨"TileForge", "size", "(II)I"⟩ prog_1_method_2_code 3 (some .int) : Cond) ∈ GW := List.mem_filter.mpr ⟨(List.mem_append_right _ (List.mem_append_right _ (List.mem_append_left _ (List.mem_of_getElem? (i := 17) rfl)))), rfl⟩
theorem hd_TileForge_size : y_TileForge_size.cls ≠ "java/lang/invoke/MethodHandle" ∧ y_TileForge_size.cls ≠ "java/lang/invoke/VarHandle" ∧ (parseMethodDescriptor y_TileForge_size.desc).map (fun d => d.parameters.length) = some 2 := by decide +kernel
theorem d_TileForge_size_0 : decode prog_1_method_2_code 0 = .ok (.iload_n 1, 1) := by decide +kernel
theorem d_TileForge_size_1 : decode prog_1_method_2_code 1 = .ok (.invokestatic 47, 3) := by decide +kernel
theorem d_TileForge_size_4 : decode prog_1_method_2_code 4 = .ok (.ifCond .eq 10, 3) := by decide +kernel
theorem d_TileForge_size_7 : decode prog_1_method_2_code 7 = .ok (.iload_n 2, 1) := by decide +kernel
theorem d_TileForge_size_8 : decode prog_1_method_2_code 8 = .ok (.invokestatic 47, 3) := by decide +kernel
theorem d_TileForge_size_11 : decode prog_1_method_2_code 11 = .ok (.ifCond .ne 11, 3) := by decide +kernel
theorem d_TileForge_size_14 : decode prog_1_method_2_code 14 = .ok (.new 51, 3) := by decide +kernel
theorem d_TileForge_size_17 : decode prog_1_method_2_code 17 = .ok (.dup, 1) := by decide +kernel
theorem d_TileForge_size_18 : decode prog_1_method_2_code 18 = .ok (.invokespecial 53, 3) := by decide +kernel
theorem d_TileForge_size_21 : decode prog_1_method_2_code 21 = .ok (.athrow, 1) := by decide +kernel
theorem d_TileForge_size_22 : decode prog_1_method_2_code 22 = .ok (.aload_n 0, 1) := by decide +kernel
theorem d_TileForge_size_23 : decode prog_1_method_2_code 23 = .ok (.getfield 10, 3) := by decide +kernel
theorem d_TileForge_size_26 : decode prog_1_method_2_code 26 = .ok (.iload_n 1, 1) := by decide +kernel
theorem d_TileForge_size_27 : decode prog_1_method_2_code 27 = .ok (.iload_n 2, 1) := by decide +kernel
theorem d_TileForge_size_28 : decode prog_1_method_2_code 28 = .ok (.invokevirtual 16, 3) := by decide +kernel
theorem d_TileForge_size_31 : decode prog_1_method_2_code 31 = .ok (.iload_n 1, 1) := by decide +kernel
theorem d_TileForge_size_32 : decode prog_1_method_2_code 32 = .ok (.iconst 4, 1) := by decide +kernel
theorem d_TileForge_size_33 : decode prog_1_method_2_code 33 = .ok (.idiv, 1) := by decide +kernel
theorem d_TileForge_size_34 : decode prog_1_method_2_code 34 = .ok (.iload_n 2, 1) := by decide +kernel
theorem d_TileForge_size_35 : decode prog_1_method_2_code 35 = .ok (.iconst 4, 1) := by decide +kernel
theorem d_TileForge_size_36 : decode prog_1_method_2_code 36 = .ok (.idiv, 1) := by decide +kernel
theorem d_TileForge_size_37 : decode prog_1_method_2_code 37 = .ok (.imul, 1) := by decide +kernel
theorem d_TileForge_size_38 : decode prog_1_method_2_code 38 = .ok (.ireturn, 1) := by decide +kernel
theorem mw_498 : (.methodLink "TileForge" 47 ⟨"TileForge", "isSide", "(I)Z"⟩ : Cond) ∈ GW := List.mem_filter.mpr ⟨(List.mem_append_right _ (List.mem_append_right _ (List.mem_append_left _ (List.mem_of_getElem? (i := 18) rfl)))), rfl⟩
theorem mw_499 : (.methodLink "TileForge" 16 ⟨"TileForge$Picture", "begin", "(II)V"⟩ : Cond) ∈ GW := List.mem_filter.mpr ⟨(List.mem_append_right _ (List.mem_append_left _ (List.mem_of_getElem? (i := 63) rfl))), rfl⟩
def q_tf_size (cI : ClassId) (f0 : Nat) (a1 : Nat) (c1 : Nat) (r1 : Nat) (y1 : Nat) (k1 : Nat) (j1 : Nat) (ibc : Int32) (ilc : Int32) (igl : Int32) (ibk : Int32) (ifa : Int32) (ibd : Int32) (a2 : Nat) (a3 : Nat) (px : Nat → Int32) (md : Nat → Int32) (vz : Int32) (vw : Int32) (vh : Int32) (vk : Int32) (wi : Int32) (he : Int32) : Int32 → va_W → Prop := fun rr ww => ∃ (px' : Nat → Int32), (∀ j, j < 144 → px' j = 0) ∧ rr = (wi / 4 * (he / 4)) ∧ ww = [(f0, .inr (8, [.ref a1, .ref c1, .ref r1, .ref y1, .ref k1, .ref j1, .int ibc, .int ilc, .int igl, .int ibk, .int ifa, .int ibd])), (a1, .inr (5, [.ref a2, .ref a3, .int 1, .int wi, .int he, .int 0])), (a2, .inl (cI, 144, .inl px')), (a3, .inl (cI, 9, .inl md))]
set_option maxHeartbeats 4000000 in
set_option maxRecDepth 100000 in
theorem c_tf_size (l : Launch) {D : va_G} {tys : List (ClassId × FieldType)} {cI : ClassId} (hcI : tys[0]? = some (cI, .int)) (f0 : Nat) (a1 : Nat) (c1 : Nat) (r1 : Nat) (y1 : Nat) (k1 : Nat) (j1 : Nat) (ibc : Int32) (ilc : Int32) (igl : Int32) (ibk : Int32) (ifa : Int32) (ibd : Int32) (a2 : Nat) (a3 : Nat) (px : Nat → Int32) (md : Nat → Int32) (vz : Int32) (vw : Int32) (vh : Int32) (vk : Int32) (wi : Int32) (he : Int32) (hsw : sideP wi) (hsh : sideP he) : CsI l D vwCl tys y_TileForge_size ws_TileForge_size ({ frames := 1, cells := 0, slots := 0, locals := 23 } : Room) [.ref f0, .int wi, .int he] [(f0, .inr (8, [.ref a1, .ref c1, .ref r1, .ref y1, .ref k1, .ref j1, .int ibc, .int ilc, .int igl, .int ibk, .int ifa, .int ibd])), (a1, .inr (5, [.ref a2, .ref a3, .int vz, .int vw, .int vh, .int vk])), (a2, .inl (cI, 144, .inl px)), (a3, .inl (cI, 9, .inl md))] (q_tf_size cI f0 a1 c1 r1 y1 k1 j1 ibc ilc igl ibk ifa ibd a2 a3 px md vz vw vh vk wi he) 0 0 := by
  intro sz
  refine Met.ofW (cc := prog_1_method_2_code) (maxL := 3) (ret := (some .int)) (by decide) rfl ?_
  intro p e s m args below meth c s₁ B hml hv
  obtain ⟨rfl, hsz, hP, hK, hD0, hN⟩ := hv
  have hx := B.exec
  have hb := B.bytes
  have hr := B.returns
  have hts := atoms_spec (ws := ws_TileForge_size) B.pre
  have hown : s.vm.findClass "TileForge" = some m.cls := findClass_of_methodNamed B.named
  have hlocks := B.notSynchronized
  subst hsz
  have hD := hD0.self (sz := s.heap.size)
  generalize hAe : va_A [(f0, .inr (8, [.ref a1, .ref c1, .ref r1, .ref y1, .ref k1, .ref j1, .int ibc, .int ilc, .int igl, .int ibk, .int ifa, .int ibd])), (a1, .inr (5, [.ref a2, .ref a3, .int vz, .int vw, .int vh, .int vk])), (a2, .inl (cI, 144, .inl px)), (a3, .inl (cI, 9, .inl md))] s.heap.size = A at hD ⊢
  have hA : ∀ q : Nat, s.heap.size ≤ q → A q := fun q h => by rw [← hAe]; exact Or.inr h
  have hS : va_S A s.heap s.heap [] := va_S.rf
  have hP : va_P D vwCl [(f0, .inr (8, [.ref a1, .ref c1, .ref r1, .ref y1, .ref k1, .ref j1, .int ibc, .int ilc, .int igl, .int ibk, .int ifa, .int ibd])), (a1, .inr (5, [.ref a2, .ref a3, .int vz, .int vw, .int vh, .int vk])), (a2, .inl (cI, 144, .inl px)), (a3, .inl (cI, 9, .inl md))] s.heap := hP
  have hl := lv_entry ([.ref f0, .int wi, .int he]) (n := 3) (Nat.le_of_ble_eq_true rfl)
  rw [lg_entry_eq]
  generalize (lg_sl ([.ref f0, .int wi, .int he]) ++ List.replicate (3 - (lg_sl ([.ref f0, .int wi, .int he])).length) Slot.unset).toArray = ls at hl ⊢
  have hl : lv_has ls 3 [(0, .ref f0), (1, .int wi), (2, .int he)] := hl
  refine lv_iload_n hx hb d_TileForge_size_0 rfl (lv_at hl 1 rfl) ?_
  refine cs_Si (As := [.int wi]) (rest := []) (wr := [(f0, .inr (8, [.ref a1, .ref c1, .ref r1, .ref y1, .ref k1, .ref j1, .int ibc, .int ilc, .int igl, .int ibk, .int ifa, .int ibd])), (a1, .inr (5, [.ref a2, .ref a3, .int vz, .int vw, .int vh, .int vk])), (a2, .inl (cI, 144, .inl px)), (a3, .inl (cI, 9, .inl md))]) ⟨hx, hb, hml, hown, hts⟩ (c_isSide l hcI wi) (va_cwS 1 hts (cs_gS mw_498 mw_140 mw_139 mw_73) rfl rfl rfl hd_TileForge_isSide ⟨Nat.le_of_ble_eq_true rfl, Nat.le_of_ble_eq_true rfl⟩) hN hK hP hD hS hA [] [0, 1, 2, 3] rfl rfl rfl rfl (by decide) rfl rfl hl.1 (Nat.le_of_ble_eq_true rfl) d_TileForge_size_1 ⟨Nat.le_of_ble_eq_true rfl, Nat.le_of_ble_eq_true rfl⟩ (fun r1 w1 H locs hw hP hD hS => ?_)
  obtain ⟨rfl, rfl⟩ := hw
  have hP : va_P D vwCl [(f0, .inr (8, [.ref a1, .ref c1, .ref r1, .ref y1, .ref k1, .ref j1, .int ibc, .int ilc, .int igl, .int ibk, .int ifa, .int ibd])), (a1, .inr (5, [.ref a2, .ref a3, .int vz, .int vw, .int vh, .int vk])), (a2, .inl (cI, 144, .inl px)), (a3, .inl (cI, 9, .inl md))] H := hP
  have hD : va_D A [(f0, .inr (8, [.ref a1, .ref c1, .ref r1, .ref y1, .ref k1, .ref j1, .int ibc, .int ilc, .int igl, .int ibk, .int ifa, .int ibd])), (a1, .inr (5, [.ref a2, .ref a3, .int vz, .int vw, .int vh, .int vk])), (a2, .inl (cI, 144, .inl px)), (a3, .inl (cI, 9, .inl md))] := hD
  refine lv_if_eq (tgt := 14) hx hb d_TileForge_size_4 (by decide) (fun c_4 => ?_) (fun c_4 => ?_)
  · have c_4 := cs_b0 c_4
    exact absurd hsw c_4
  · have c_4 := cs_b1 c_4
    refine lv_iload_n hx hb d_TileForge_size_7 rfl (lv_at hl 2 rfl) ?_
    refine cs_Si (As := [.int he]) (rest := []) (wr := [(f0, .inr (8, [.ref a1, .ref c1, .ref r1, .ref y1, .ref k1, .ref j1, .int ibc, .int ilc, .int igl, .int ibk, .int ifa, .int ibd])), (a1, .inr (5, [.ref a2, .ref a3, .int vz, .int vw, .int vh, .int vk])), (a2, .inl (cI, 144, .inl px)), (a3, .inl (cI, 9, .inl md))]) ⟨hx, hb, hml, hown, hts⟩ (c_isSide l hcI he) (va_cwS 1 hts (cs_gS mw_498 mw_140 mw_139 mw_73) rfl rfl rfl hd_TileForge_isSide ⟨Nat.le_of_ble_eq_true rfl, Nat.le_of_ble_eq_true rfl⟩) hN hK hP hD hS hA [] [0, 1, 2, 3] rfl rfl rfl rfl (by decide) rfl rfl hl.1 (Nat.le_of_ble_eq_true rfl) d_TileForge_size_8 ⟨Nat.le_of_ble_eq_true rfl, Nat.le_of_ble_eq_true rfl⟩ (fun r2 w1 H locs hw hP hD hS => ?_)
    obtain ⟨rfl, rfl⟩ := hw
    have hP : va_P D vwCl [(f0, .inr (8, [.ref a1, .ref c1, .ref r1, .ref y1, .ref k1, .ref j1, .int ibc, .int ilc, .int igl, .int ibk, .int ifa, .int ibd])), (a1, .inr (5, [.ref a2, .ref a3, .int vz, .int vw, .int vh, .int vk])), (a2, .inl (cI, 144, .inl px)), (a3, .inl (cI, 9, .inl md))] H := hP
    have hD : va_D A [(f0, .inr (8, [.ref a1, .ref c1, .ref r1, .ref y1, .ref k1, .ref j1, .int ibc, .int ilc, .int igl, .int ibk, .int ifa, .int ibd])), (a1, .inr (5, [.ref a2, .ref a3, .int vz, .int vw, .int vh, .int vk])), (a2, .inl (cI, 144, .inl px)), (a3, .inl (cI, 9, .inl md))] := hD
    refine lv_if_ne (tgt := 22) hx hb d_TileForge_size_11 (by decide) (fun c_11 => ?_) (fun c_11 => ?_)
    · have c_11 := cs_b1 c_11
      refine lv_aload_n hx hb d_TileForge_size_22 rfl (lv_at hl 0 rfl) ?_
      refine va_get (D := D) (ci := 8) (v := .ref a1) (C := "TileForge") (T := T_TileForge) (N := 12) hx hb hts (cs_in in_TileForge) hown hK hP 0 rfl rfl 0 (by decide) (hts _ (cs_m mw_473)) (fun _ h9 => h9) rfl d_TileForge_size_23 ?_
      refine lv_iload_n hx hb d_TileForge_size_26 rfl (lv_at hl 1 rfl) ?_
      refine lv_iload_n hx hb d_TileForge_size_27 rfl (lv_at hl 2 rfl) ?_
      refine cs_Vv (As := [.int wi, .int he]) (rest := []) (wr := [(f0, .inr (8, [.ref a1, .ref c1, .ref r1, .ref y1, .ref k1, .ref j1, .int ibc, .int ilc, .int igl, .int ibk, .int ifa, .int ibd]))]) ⟨hx, hb, hml, hown, hts⟩ (c_pic_begin l hcI a1 a2 a3 px md vz vw vh vk wi he) (cwV 2 hts (cs_gV mw_499 mw_319 mw_320 mw_93 mw_86) rfl rfl rfl ⟨rfl, hd_Picture_begin⟩ ⟨Nat.le_of_ble_eq_true rfl, Nat.le_of_ble_eq_true rfl⟩) hN hK hP hD hS hA [1, 2, 3] [0] rfl rfl rfl rfl (by decide) (ci := 5) rfl rfl rfl rfl rfl hl.1 (Nat.le_of_ble_eq_true rfl) d_TileForge_size_28 ⟨Nat.le_of_ble_eq_true rfl, Nat.le_of_ble_eq_true rfl⟩ (fun w1 H locs hw hP hD hS => ?_)
      obtain ⟨px9, hz9, rfl⟩ := hw
      have hP : va_P D vwCl [(f0, .inr (8, [.ref a1, .ref c1, .ref r1, .ref y1, .ref k1, .ref j1, .int ibc, .int ilc, .int igl, .int ibk, .int ifa, .int ibd])), (a1, .inr (5, [.ref a2, .ref a3, .int 1, .int wi, .int he, .int 0])), (a2, .inl (cI, 144, .inl px9)), (a3, .inl (cI, 9, .inl md))] H := hP
      have hD : va_D A [(f0, .inr (8, [.ref a1, .ref c1, .ref r1, .ref y1, .ref k1, .ref j1, .int ibc, .int ilc, .int igl, .int ibk, .int ifa, .int ibd])), (a1, .inr (5, [.ref a2, .ref a3, .int 1, .int wi, .int he, .int 0])), (a2, .inl (cI, 144, .inl px9)), (a3, .inl (cI, 9, .inl md))] := hD
      refine lv_iload_n hx hb d_TileForge_size_31 rfl (lv_at hl 1 rfl) ?_
      refine lv_iconst (v := 4) hx hb d_TileForge_size_32 (by decide) ?_
      refine lv_idiv hx hb d_TileForge_size_33 (by decide) ?_
      refine lv_iload_n hx hb d_TileForge_size_34 rfl (lv_at hl 2 rfl) ?_
      refine lv_iconst (v := 4) hx hb d_TileForge_size_35 (by decide) ?_
      refine lv_idiv hx hb d_TileForge_size_36 (by decide) ?_
      refine lv_imul hx hb d_TileForge_size_37 ?_
      exact W.iret (v := ((wi / 4) * (he / 4))) hx hb hr (fun t ht hW => ⟨⟨((wi / 4) * (he / 4)), [(f0, .inr (8, [.ref a1, .ref c1, .ref r1, .ref y1, .ref k1, .ref j1, .int ibc, .int ilc, .int igl, .int ibk, .int ifa, .int ibd])), (a1, .inr (5, [.ref a2, .ref a3, .int 1, .int wi, .int he, .int 0])), (a2, .inl (cI, 144, .inl px9)), (a3, .inl (cI, 9, .inl md))], rfl, ⟨px9, (hz9), (rfl), (rfl)⟩, by rw [ht]; exact hP, va_K.moved hW.alike hK, hD⟩, hS.F ht⟩) hS.2.2 d_TileForge_size_38
    · have c_11 := cs_b0 c_11
      exact absurd hsh c_11
def y_TileForge_pixel : MethodName := ⟨"TileForge", "pixel", "(III)I"⟩
def ws_TileForge_pixel : List Cond := .code y_TileForge_pixel prog_1_method_3_code 5 (some .int) :: GW
theorem mw_500 : (.code ⟨"TileForge", "pixel", "(III)I"⟩ prog_1_method_3_code 5 (some .int) : Cond) ∈ GW := List.mem_filter.mpr ⟨(List.mem_append_right _ (List.mem_append_right _ (List.mem_append_left _ (List.mem_of_getElem? (i := 92) rfl)))), rfl⟩
theorem hd_TileForge_pixel : y_TileForge_pixel.cls ≠ "java/lang/invoke/MethodHandle" ∧ y_TileForge_pixel.cls ≠ "java/lang/invoke/VarHandle" ∧ (parseMethodDescriptor y_TileForge_pixel.desc).map (fun d => d.parameters.length) = some 3 := by decide +kernel
theorem d_TileForge_pixel_0 : decode prog_1_method_3_code 0 = .ok (.iload_n 3, 1) := by decide +kernel
theorem d_TileForge_pixel_1 : decode prog_1_method_3_code 1 = .ok (.invokestatic 54, 3) := by decide +kernel
theorem d_TileForge_pixel_4 : decode prog_1_method_3_code 4 = .ok (.ifCond .ne 11, 3) := by decide +kernel
theorem d_TileForge_pixel_7 : decode prog_1_method_3_code 7 = .ok (.new 51, 3) := by decide +kernel
theorem d_TileForge_pixel_10 : decode prog_1_method_3_code 10 = .ok (.dup, 1) := by decide +kernel
theorem d_TileForge_pixel_11 : decode prog_1_method_3_code 11 = .ok (.invokespecial 53, 3) := by decide +kernel
theorem d_TileForge_pixel_14 : decode prog_1_method_3_code 14 = .ok (.athrow, 1) := by decide +kernel
theorem d_TileForge_pixel_15 : decode prog_1_method_3_code 15 = .ok (.aload_n 0, 1) := by decide +kernel
theorem d_TileForge_pixel_16 : decode prog_1_method_3_code 16 = .ok (.getfield 10, 3) := by decide +kernel
theorem d_TileForge_pixel_19 : decode prog_1_method_3_code 19 = .ok (.iload_n 1, 1) := by decide +kernel
theorem d_TileForge_pixel_20 : decode prog_1_method_3_code 20 = .ok (.iload_n 2, 1) := by decide +kernel
theorem d_TileForge_pixel_21 : decode prog_1_method_3_code 21 = .ok (.invokevirtual 57, 3) := by decide +kernel
theorem d_TileForge_pixel_24 : decode prog_1_method_3_code 24 = .ok (.ifCond .ne 11, 3) := by decide +kernel
theorem d_TileForge_pixel_27 : decode prog_1_method_3_code 27 = .ok (.new 61, 3) := by decide +kernel
theorem d_TileForge_pixel_30 : decode prog_1_method_3_code 30 = .ok (.dup, 1) := by decide +kernel
theorem d_TileForge_pixel_31 : decode prog_1_method_3_code 31 = .ok (.invokespecial 63, 3) := by decide +kernel
theorem d_TileForge_pixel_34 : decode prog_1_method_3_code 34 = .ok (.athrow, 1) := by decide +kernel
theorem d_TileForge_pixel_35 : decode prog_1_method_3_code 35 = .ok (.aload_n 0, 1) := by decide +kernel
theorem d_TileForge_pixel_36 : decode prog_1_method_3_code 36 = .ok (.getfield 10, 3) := by decide +kernel
theorem d_TileForge_pixel_39 : decode prog_1_method_3_code 39 = .ok (.iload_n 1, 1) := by decide +kernel
theorem d_TileForge_pixel_40 : decode prog_1_method_3_code 40 = .ok (.iload_n 2, 1) := by decide +kernel
theorem d_TileForge_pixel_41 : decode prog_1_method_3_code 41 = .ok (.invokevirtual 64, 3) := by decide +kernel
theorem d_TileForge_pixel_44 : decode prog_1_method_3_code 44 = .ok (.istore 4, 2) := by decide +kernel
theorem d_TileForge_pixel_46 : decode prog_1_method_3_code 46 = .ok (.aload_n 0, 1) := by decide +kernel
theorem d_TileForge_pixel_47 : decode prog_1_method_3_code 47 = .ok (.getfield 10, 3) := by decide +kernel
theorem d_TileForge_pixel_50 : decode prog_1_method_3_code 50 = .ok (.iload_n 1, 1) := by decide +kernel
theorem d_TileForge_pixel_51 : decode prog_1_method_3_code 51 = .ok (.iload_n 2, 1) := by decide +kernel
theorem d_TileForge_pixel_52 : decode prog_1_method_3_code 52 = .ok (.iload_n 3, 1) := by decide +kernel
theorem d_TileForge_pixel_53 : decode prog_1_method_3_code 53 = .ok (.invokevirtual 68, 3) := by decide +kernel
theorem d_TileForge_pixel_56 : decode prog_1_method_3_code 56 = .ok (.iload 4, 2) := by decide +kernel
theorem d_TileForge_pixel_58 : decode prog_1_method_3_code 58 = .ok (.ireturn, 1) := by decide +kernel
theorem mw_501 : (.methodLink "TileForge" 54 ⟨"TileForge", "isPixel", "(I)Z"⟩ : Cond) ∈ GW := List.mem_filter.mpr ⟨(List.mem_append_right _ (List.mem_append_right _ (List.mem_append_left _ (List.mem_of_getElem? (i := 93) rfl)))), rfl⟩
theorem mw_502 : (.static ⟨"TileForge", "isPixel", "(I)Z"⟩ : Cond) ∈ GW := List.mem_filter.mpr ⟨(List.mem_append_right _ (List.mem_append_right _ (List.mem_append_left _ (List.mem_of_getElem? (i := 94) rfl)))), rfl⟩
theorem mw_503 : (.methodLink "TileForge" 57 ⟨"TileForge$Picture", "has", "(II)Z"⟩ : Cond) ∈ GW := List.mem_filter.mpr ⟨(List.mem_append_right _ (List.mem_append_right _ (List.mem_append_left _ (List.mem_of_getElem? (i := 96) rfl)))), rfl⟩
theorem mw_504 : (.methodLink "TileForge" 68 ⟨"TileForge$Picture", "put", "(III)V"⟩ : Cond) ∈ GW := List.mem_filter.mpr ⟨(List.mem_append_right _ (List.mem_append_right _ (List.mem_append_left _ (List.mem_of_getElem? (i := 120) rfl)))), rfl⟩
def q_tf_pixel (cI : ClassId) (f0 : Nat) (a1 : Nat) (c1 : Nat) (r1 : Nat) (y1 : Nat) (k1 : Nat) (j1 : Nat) (ibc : Int32) (ilc : Int32) (igl : Int32) (ibk : Int32) (ifa : Int32) (ibd : Int32) (a2 : Nat) (a3 : Nat) (px : Nat → Int32) (md : Nat → Int32) (vz : Int32) (vw : Int32) (vh : Int32) (vk : Int32) (x : Nat) (y : Nat) (v : Int32) : Int32 → va_W → Prop := fun rr ww => rr = (px (y * 12 + x)) ∧ ww = [(f0, .inr (8, [.ref a1, .ref c1, .ref r1, .ref y1, .ref k1, .ref j1, .int ibc, .int ilc, .int igl, .int ibk, .int ifa, .int ibd])), (a1, .inr (5, [.ref a2, .ref a3, .int vz, .int vw, .int vh, .int vk])), (a2, .inl (cI, 144, .inl (upd px (y * 12 + x) v))), (a3, .inl (cI, 9, .inl md))]
set_option maxHeartbeats 4000000 in
set_option maxRecDepth 100000 in
theorem c_tf_pixel (l : Launch) {D : va_G} {tys : List (ClassId × FieldType)} {cI : ClassId} (hcI : tys[0]? = some (cI, .int)) (f0 : Nat) (a1 : Nat) (c1 : Nat) (r1 : Nat) (y1 : Nat) (k1 : Nat) (j1 : Nat) (ibc : Int32) (ilc : Int32) (igl : Int32) (ibk : Int32) (ifa : Int32) (ibd : Int32) (a2 : Nat) (a3 : Nat) (px : Nat → Int32) (md : Nat → Int32) (vz : Int32) (vw : Int32) (vh : Int32) (vk : Int32) (x : Nat) (y : Nat) (v : Int32) (hvv : ¬ v < 0 ∧ ¬ 255 < v) (hx12 : x < 12) (hy12 : y < 12) (hxw : nI x < vw) (hyh : nI y < vh) : CsI l D vwCl tys y_TileForge_pixel ws_TileForge_pixel ({ frames := 2, cells := 0, slots := 0, locals := 45 } : Room) [.ref f0, .int (nI x), .int (nI y), .int v] [(f0, .inr (8, [.ref a1, .ref c1, .ref r1, .ref y1, .ref k1, .ref j1, .int ibc, .int ilc, .int igl, .int ibk, .int ifa, .int ibd])), (a1, .inr (5, [.ref a2, .ref a3, .int vz, .int vw, .int vh, .int vk])), (a2, .inl (cI, 144, .inl px)), (a3, .inl (cI, 9, .inl md))] (q_tf_pixel cI f0 a1 c1 r1 y1 k1 j1 ibc ilc igl ibk ifa ibd a2 a3 px md vz vw vh vk x y v) 0 0 := by
  intro sz
  refine Met.ofW (cc := prog_1_method_3_code) (maxL := 5) (ret := (some .int)) (by decide) rfl ?_
  intro p e s m args below meth c s₁ B hml hv
  obtain ⟨rfl, hsz, hP, hK, hD0, hN⟩ := hv
  have hx := B.exec
  have hb := B.bytes
  have hr := B.returns
  have hts := atoms_spec (ws := ws_TileForge_pixel) B.pre
  have hown : s.vm.findClass "TileForge" = some m.cls := findClass_of_methodNamed B.named
  have hlocks := B.notSynchronized
  subst hsz
  have hD := hD0.self (sz := s.heap.size)
  generalize hAe : va_A [(f0, .inr (8, [.ref a1, .ref c1, .ref r1, .ref y1, .ref k1, .ref j1, .int ibc, .int ilc, .int igl, .int ibk, .int ifa, .int ibd])), (a1, .inr (5, [.ref a2, .ref a3, .int vz, .int vw, .int vh, .int vk])), (a2, .inl (cI, 144, .inl px)), (a3, .inl (cI, 9, .inl md))] s.heap.size = A at hD ⊢
  have hA : ∀ q : Nat, s.heap.size ≤ q → A q := fun q h => by rw [← hAe]; exact Or.inr h
  have hS : va_S A s.heap s.heap [] := va_S.rf
  have hP : va_P D vwCl [(f0, .inr (8, [.ref a1, .ref c1, .ref r1, .ref y1, .ref k1, .ref j1, .int ibc, .int ilc, .int igl, .int ibk, .int ifa, .int ibd])), (a1, .inr (5, [.ref a2, .ref a3, .int vz, .int vw, .int vh, .int vk])), (a2, .inl (cI, 144, .inl px)), (a3, .inl (cI, 9, .inl md))] s.heap := hP
  have hl := lv_entry ([.ref f0, .int (nI x), .int (nI y), .int v]) (n := 5) (Nat.le_of_ble_eq_true rfl)
  rw [lg_entry_eq]
  generalize (lg_sl ([.ref f0, .int (nI x), .int (nI y), .int v]) ++ List.replicate (5 - (lg_sl ([.ref f0, .int (nI x), .int (nI y), .int v])).length) Slot.unset).toArray = ls at hl ⊢
  have hl : lv_has ls 5 [(0, .ref f0), (1, .int (nI x)), (2, .int (nI y)), (3, .int v)] := hl
  refine lv_iload_n hx hb d_TileForge_pixel_0 rfl (lv_at hl 3 rfl) ?_
  refine cs_Si (As := [.int v]) (rest := []) (wr := [(f0, .inr (8, [.ref a1, .ref c1, .ref r1, .ref y1, .ref k1, .ref j1, .int ibc, .int ilc, .int igl, .int ibk, .int ifa, .int ibd])), (a1, .inr (5, [.ref a2, .ref a3, .int vz, .int vw, .int vh, .int vk])), (a2, .inl (cI, 144, .inl px)), (a3, .inl (cI, 9, .inl md))]) ⟨hx, hb, hml, hown, hts⟩ (c_isPixel l hcI v) (va_cwS 1 hts (cs_gS mw_501 mw_502 mw_139 mw_74) rfl rfl rfl hd_TileForge_isPixel ⟨Nat.le_of_ble_eq_true rfl, Nat.le_of_ble_eq_true rfl⟩) hN hK hP hD hS hA [] [0, 1, 2, 3] rfl rfl rfl rfl (by decide) rfl rfl hl.1 (Nat.le_of_ble_eq_true rfl) d_TileForge_pixel_1 ⟨Nat.le_of_ble_eq_true rfl, Nat.le_of_ble_eq_true rfl⟩ (fun r1 w1 H locs hw hP hD hS => ?_)
  obtain ⟨rfl, rfl⟩ := hw
  have hP : va_P D vwCl [(f0, .inr (8, [.ref a1, .ref c1, .ref r1, .ref y1, .ref k1, .ref j1, .int ibc, .int ilc, .int igl, .int ibk, .int ifa, .int ibd])), (a1, .inr (5, [.ref a2, .ref a3, .int vz, .int vw, .int vh, .int vk])), (a2, .inl (cI, 144, .inl px)), (a3, .inl (cI, 9, .inl md))] H := hP
  have hD : va_D A [(f0, .inr (8, [.ref a1, .ref c1, .ref r1, .ref y1, .ref k1, .ref j1, .int ibc, .int ilc, .int igl, .int ibk, .int ifa, .int ibd])), (a1, .inr (5, [.ref a2, .ref a3, .int vz, .int vw, .int vh, .int vk])), (a2, .inl (cI, 144, .inl px)), (a3, .inl (cI, 9, .inl md))] := hD
  refine lv_if_ne (tgt := 15) hx hb d_TileForge_pixel_4 (by decide) (fun c_4 => ?_) (fun c_4 => ?_)
  · have c_4 := cs_b1 c_4
    refine lv_aload_n hx hb d_TileForge_pixel_15 rfl (lv_at hl 0 rfl) ?_
    refine va_get (D := D) (ci := 8) (v := .ref a1) (C := "TileForge") (T := T_TileForge) (N := 12) hx hb hts (cs_in in_TileForge) hown hK hP 0 rfl rfl 0 (by decide) (hts _ (cs_m mw_473)) (fun _ h9 => h9) rfl d_TileForge_pixel_16 ?_
    refine lv_iload_n hx hb d_TileForge_pixel_19 rfl (lv_at hl 1 rfl) ?_
    refine lv_iload_n hx hb d_TileForge_pixel_20 rfl (lv_at hl 2 rfl) ?_
    refine cs_Vi (As := [.int (nI x), .int (nI y)]) (rest := []) (wr := [(f0, .inr (8, [.ref a1, .ref c1, .ref r1, .ref y1, .ref k1, .ref j1, .int ibc, .int ilc, .int igl, .int ibk, .int ifa, .int ibd]))]) ⟨hx, hb, hml, hown, hts⟩ (c_pic_has l hcI a1 a2 a3 px md vz vw vh vk (nI x) (nI y)) (cwV 2 hts (cs_gV mw_503 mw_95 mw_96 mw_93 mw_91) rfl rfl rfl ⟨rfl, hd_Picture_has⟩ ⟨Nat.le_of_ble_eq_true rfl, Nat.le_of_ble_eq_true rfl⟩) hN hK hP hD hS hA [1, 2, 3] [0] rfl rfl rfl rfl (by decide) (ci := 5) rfl rfl rfl rfl rfl hl.1 (Nat.le_of_ble_eq_true rfl) d_TileForge_pixel_21 ⟨Nat.le_of_ble_eq_true rfl, Nat.le_of_ble_eq_true rfl⟩ (fun r2 w1 H locs hw hP hD hS => ?_)
    obtain ⟨rfl, rfl⟩ := hw
    have hP : va_P D vwCl [(f0, .inr (8, [.ref a1, .ref c1, .ref r1, .ref y1, .ref k1, .ref j1, .int ibc, .int ilc, .int igl, .int ibk, .int ifa, .int ibd])), (a1, .inr (5, [.ref a2, .ref a3, .int vz, .int vw, .int vh, .int vk])), (a2, .inl (cI, 144, .inl px)), (a3, .inl (cI, 9, .inl md))] H := hP
    have hD : va_D A [(f0, .inr (8, [.ref a1, .ref c1, .ref r1, .ref y1, .ref k1, .ref j1, .int ibc, .int ilc, .int igl, .int ibk, .int ifa, .int ibd])), (a1, .inr (5, [.ref a2, .ref a3, .int vz, .int vw, .int vh, .int vk])), (a2, .inl (cI, 144, .inl px)), (a3, .inl (cI, 9, .inl md))] := hD
    refine lv_if_ne (tgt := 35) hx hb d_TileForge_pixel_24 (by decide) (fun c_24 => ?_) (fun c_24 => ?_)
    · have c_24 := cs_b1 c_24
      refine lv_aload_n hx hb d_TileForge_pixel_35 rfl (lv_at hl 0 rfl) ?_
      refine va_get (D := D) (ci := 8) (v := .ref a1) (C := "TileForge") (T := T_TileForge) (N := 12) hx hb hts (cs_in in_TileForge) hown hK hP 0 rfl rfl 0 (by decide) (hts _ (cs_m mw_473)) (fun _ h9 => h9) rfl d_TileForge_pixel_36 ?_
      refine lv_iload_n hx hb d_TileForge_pixel_39 rfl (lv_at hl 1 rfl) ?_
      refine lv_iload_n hx hb d_TileForge_pixel_40 rfl (lv_at hl 2 rfl) ?_
      refine cs_Vi (As := [.int (nI x), .int (nI y)]) (rest := []) (wr := [(f0, .inr (8, [.ref a1, .ref c1, .ref r1, .ref y1, .ref k1, .ref j1, .int ibc, .int ilc, .int igl, .int ibk, .int ifa, .int ibd]))]) ⟨hx, hb, hml, hown, hts⟩ (c_pic_look l hcI a1 a2 a3 px md vz vw vh vk x y (hx12) (hy12) (hxw) (hyh)) (cwV 2 hts (cs_gV mw_479 mw_195 mw_196 mw_93 mw_92) rfl rfl rfl ⟨rfl, hd_Picture_look⟩ ⟨Nat.le_of_ble_eq_true rfl, Nat.le_of_ble_eq_true rfl⟩) hN hK hP hD hS hA [1, 2, 3] [0] rfl rfl rfl rfl (by decide) (ci := 5) rfl rfl rfl rfl rfl hl.1 (Nat.le_of_ble_eq_true rfl) d_TileForge_pixel_41 ⟨Nat.le_of_ble_eq_true rfl, Nat.le_of_ble_eq_true rfl⟩ (fun r3 w1 H locs hw hP hD hS => ?_)
      obtain ⟨rfl, rfl⟩ := hw
      have hP : va_P D vwCl [(f0, .inr (8, [.ref a1, .ref c1, .ref r1, .ref y1, .ref k1, .ref j1, .int ibc, .int ilc, .int igl, .int ibk, .int ifa, .int ibd])), (a1, .inr (5, [.ref a2, .ref a3, .int vz, .int vw, .int vh, .int vk])), (a2, .inl (cI, 144, .inl px)), (a3, .inl (cI, 9, .inl md))] H := hP
      have hD : va_D A [(f0, .inr (8, [.ref a1, .ref c1, .ref r1, .ref y1, .ref k1, .ref j1, .int ibc, .int ilc, .int igl, .int ibk, .int ifa, .int ibd])), (a1, .inr (5, [.ref a2, .ref a3, .int vz, .int vw, .int vh, .int vk])), (a2, .inl (cI, 144, .inl px)), (a3, .inl (cI, 9, .inl md))] := hD
      refine lv_istore (lv' := [(4, .int (px (y * 12 + x))), (0, .ref f0), (1, .int (nI x)), (2, .int (nI y)), (3, .int v)]) hx hb d_TileForge_pixel_44 hl (by decide) rfl (fun ls hl => ?_)
      refine lv_aload_n hx hb d_TileForge_pixel_46 rfl (lv_at hl 1 rfl) ?_
      refine va_get (D := D) (ci := 8) (v := .ref a1) (C := "TileForge") (T := T_TileForge) (N := 12) hx hb hts (cs_in in_TileForge) hown hK hP 0 rfl rfl 0 (by decide) (hts _ (cs_m mw_473)) (fun _ h9 => h9) rfl d_TileForge_pixel_47 ?_
      refine lv_iload_n hx hb d_TileForge_pixel_50 rfl (lv_at hl 2 rfl) ?_
      refine lv_iload_n hx hb d_TileForge_pixel_51 rfl (lv_at hl 3 rfl) ?_
      refine lv_iload_n hx hb d_TileForge_pixel_52 rfl (lv_at hl 4 rfl) ?_
      refine cs_Vv (As := [.int (nI x), .int (nI y), .int v]) (rest := []) (wr := [(f0, .inr (8, [.ref a1, .ref c1, .ref r1, .ref y1, .ref k1, .ref j1, .int ibc, .int ilc, .int igl, .int ibk, .int ifa, .int ibd]))]) ⟨hx, hb, hml, hown, hts⟩ (c_pic_put l hcI a1 a2 a3 px md vz vw vh vk x y v (hx12) (hy12) (hxw) (hyh)) (cwV 3 hts (cs_gV mw_504 mw_227 mw_228 mw_93 mw_97) rfl rfl rfl ⟨rfl, hd_Picture_put⟩ ⟨Nat.le_of_ble_eq_true rfl, Nat.le_of_ble_eq_true rfl⟩) hN hK hP hD hS hA [1, 2, 3] [0] rfl rfl rfl rfl (by decide) (ci := 5) rfl rfl rfl rfl rfl hl.1 (Nat.le_of_ble_eq_true rfl) d_TileForge_pixel_53 ⟨Nat.le_of_ble_eq_true rfl, Nat.le_of_ble_eq_true rfl⟩ (fun w1 H locs hw hP hD hS => ?_)
      obtain rfl := hw
      have hP : va_P D vwCl [(f0, .inr (8, [.ref a1, .ref c1, .ref r1, .ref y1, .ref k1, .ref j1, .int ibc, .int ilc, .int igl, .int ibk, .int ifa, .int ibd])), (a1, .inr (5, [.ref a2, .ref a3, .int vz, .int vw, .int vh, .int vk])), (a2, .inl (cI, 144, .inl (upd px (y * 12 + x) v))), (a3, .inl (cI, 9, .inl md))] H := hP
      have hD : va_D A [(f0, .inr (8, [.ref a1, .ref c1, .ref r1, .ref y1, .ref k1, .ref j1, .int ibc, .int ilc, .int igl, .int ibk, .int ifa, .int ibd])), (a1, .inr (5, [.ref a2, .ref a3, .int vz, .int vw, .int vh, .int vk])), (a2, .inl (cI, 144, .inl (upd px (y * 12 + x) v))), (a3, .inl (cI, 9, .inl md))] := hD
      refine lv_iload hx hb d_TileForge_pixel_56 (lv_at hl 0 rfl) ?_
      exact W.iret (v := (px (y * 12 + x))) hx hb hr (fun t ht hW => ⟨⟨(px (y * 12 + x)), [(f0, .inr (8, [.ref a1, .ref c1, .ref r1, .ref y1, .ref k1, .ref j1, .int ibc, .int ilc, .int igl, .int ibk, .int ifa, .int ibd])), (a1, .inr (5, [.ref a2, .ref a3, .int vz, .int vw, .int vh, .int vk])), (a2, .inl (cI, 144, .inl (upd px (y * 12 + x) v))), (a3, .inl (cI, 9, .inl md))], rfl, ⟨(rfl), (rfl)⟩, by rw [ht]; exact hP, va_K.moved hW.alike hK, hD⟩, hS.F ht⟩) hS.2.2 d_TileForge_pixel_58
    · have c_24 := cs_b0 c_24
      exact absurd (hasP_in hx12 hy12 hxw hyh) c_24
  · have c_4 := cs_b0 c_4
    exact absurd hvv c_4
def y_TileForge_fill : MethodName := ⟨"TileForge", "fill", "(IIIII)I"⟩
def ws_TileForge_fill : List Cond := .code y_TileForge_fill prog_1_method_4_code 9 (some .int) :: GW
theorem mw_505 : (.code ⟨"TileForge", "fill", "(IIIII)I"⟩ prog_1_method_4_code 9 (some .int) : Cond) ∈ GW := List.mem_filter.mpr ⟨(List.mem_append_right _ (List.mem_append_right _ (List.mem_append_left _ (List.mem_of_getElem? (i := 130) rfl)))), rfl⟩
theorem hd_TileForge_fill : y_TileForge_fill.cls ≠ "java/lang/invoke/MethodHandle" ∧ y_TileForge_fill.cls ≠ "java/lang/invoke/VarHandle" ∧ (parseMethodDescriptor y_TileForge_fill.desc).map (fun d => d.parameters.length) = some 5 := by decide +kernel
theorem d_TileForge_fill_0 : decode prog_1_method_4_code 0 = .ok (.iload_n 3, 1) := by decide +kernel
theorem d_TileForge_fill_1 : decode prog_1_method_4_code 1 = .ok (.invokestatic 54, 3) := by decide +kernel
theorem d_TileForge_fill_4 : decode prog_1_method_4_code 4 = .ok (.ifCond .eq 19, 3) := by decide +kernel
theorem d_TileForge_fill_7 : decode prog_1_method_4_code 7 = .ok (.iload 4, 2) := by decide +kernel
theorem d_TileForge_fill_9 : decode prog_1_method_4_code 9 = .ok (.invokestatic 72, 3) := by decide +kernel
theorem d_TileForge_fill_12 : decode prog_1_method_4_code 12 = .ok (.ifCond .eq 11, 3) := by decide +kernel
theorem d_TileForge_fill_15 : decode prog_1_method_4_code 15 = .ok (.iload 5, 2) := by decide +kernel
theorem d_TileForge_fill_17 : decode prog_1_method_4_code 17 = .ok (.invokestatic 72, 3) := by decide +kernel
theorem d_TileForge_fill_20 : decode prog_1_method_4_code 20 = .ok (.ifCond .ne 11, 3) := by decide +kernel
theorem d_TileForge_fill_23 : decode prog_1_method_4_code 23 = .ok (.new 51, 3) := by decide +kernel
theorem d_TileForge_fill_26 : decode prog_1_method_4_code 26 = .ok (.dup, 1) := by decide +kernel
theorem d_TileForge_fill_27 : decode prog_1_method_4_code 27 = .ok (.invokespecial 53, 3) := by decide +kernel
theorem d_TileForge_fill_30 : decode prog_1_method_4_code 30 = .ok (.athrow, 1) := by decide +kernel
theorem d_TileForge_fill_31 : decode prog_1_method_4_code 31 = .ok (.aload_n 0, 1) := by decide +kernel
theorem d_TileForge_fill_32 : decode prog_1_method_4_code 32 = .ok (.getfield 10, 3) := by decide +kernel
theorem d_TileForge_fill_35 : decode prog_1_method_4_code 35 = .ok (.iload_n 1, 1) := by decide +kernel
theorem d_TileForge_fill_36 : decode prog_1_method_4_code 36 = .ok (.iload_n 2, 1) := by decide +kernel
theorem d_TileForge_fill_37 : decode prog_1_method_4_code 37 = .ok (.invokevirtual 57, 3) := by decide +kernel
theorem d_TileForge_fill_40 : decode prog_1_method_4_code 40 = .ok (.ifCond .ne 11, 3) := by decide +kernel
theorem d_TileForge_fill_43 : decode prog_1_method_4_code 43 = .ok (.new 61, 3) := by decide +kernel
theorem d_TileForge_fill_46 : decode prog_1_method_4_code 46 = .ok (.dup, 1) := by decide +kernel
theorem d_TileForge_fill_47 : decode prog_1_method_4_code 47 = .ok (.invokespecial 63, 3) := by decide +kernel
theorem d_TileForge_fill_50 : decode prog_1_method_4_code 50 = .ok (.athrow, 1) := by decide +kernel
theorem d_TileForge_fill_51 : decode prog_1_method_4_code 51 = .ok (.iconst 0, 1) := by decide +kernel
theorem d_TileForge_fill_52 : decode prog_1_method_4_code 52 = .ok (.istore 6, 2) := by decide +kernel
theorem d_TileForge_fill_54 : decode prog_1_method_4_code 54 = .ok (.iload_n 2, 1) := by decide +kernel
theorem d_TileForge_fill_55 : decode prog_1_method_4_code 55 = .ok (.istore 7, 2) := by decide +kernel
theorem d_TileForge_fill_57 : decode prog_1_method_4_code 57 = .ok (.iload 7, 2) := by decide +kernel
theorem d_TileForge_fill_59 : decode prog_1_method_4_code 59 = .ok (.aload_n 0, 1) := by decide +kernel
theorem d_TileForge_fill_60 : decode prog_1_method_4_code 60 = .ok (.getfield 10, 3) := by decide +kernel
theorem d_TileForge_fill_63 : decode prog_1_method_4_code 63 = .ok (.getfield 75, 3) := by decide +kernel
theorem d_TileForge_fill_66 : decode prog_1_method_4_code 66 = .ok (.if_icmp .ge 64, 3) := by decide +kernel
theorem d_TileForge_fill_69 : decode prog_1_method_4_code 69 = .ok (.iload_n 1, 1) := by decide +kernel
theorem d_TileForge_fill_70 : decode prog_1_method_4_code 70 = .ok (.istore 8, 2) := by decide +kernel
theorem d_TileForge_fill_72 : decode prog_1_method_4_code 72 = .ok (.iload 8, 2) := by decide +kernel
theorem d_TileForge_fill_74 : decode prog_1_method_4_code 74 = .ok (.aload_n 0, 1) := by decide +kernel
theorem d_TileForge_fill_75 : decode prog_1_method_4_code 75 = .ok (.getfield 10, 3) := by decide +kernel
theorem d_TileForge_fill_78 : decode prog_1_method_4_code 78 = .ok (.getfield 79, 3) := by decide +kernel
theorem d_TileForge_fill_81 : decode prog_1_method_4_code 81 = .ok (.if_icmp .ge 43, 3) := by decide +kernel
theorem d_TileForge_fill_84 : decode prog_1_method_4_code 84 = .ok (.aload_n 0, 1) := by decide +kernel
theorem d_TileForge_fill_85 : decode prog_1_method_4_code 85 = .ok (.getfield 10, 3) := by decide +kernel
theorem d_TileForge_fill_88 : decode prog_1_method_4_code 88 = .ok (.iload 8, 2) := by decide +kernel
theorem d_TileForge_fill_90 : decode prog_1_method_4_code 90 = .ok (.iload 7, 2) := by decide +kernel
theorem d_TileForge_fill_92 : decode prog_1_method_4_code 92 = .ok (.iload_n 3, 1) := by decide +kernel
theorem d_TileForge_fill_93 : decode prog_1_method_4_code 93 = .ok (.iload 4, 2) := by decide +kernel
theorem d_TileForge_fill_95 : decode prog_1_method_4_code 95 = .ok (.iload 8, 2) := by decide +kernel
theorem d_TileForge_fill_97 : decode prog_1_method_4_code 97 = .ok (.iload_n 1, 1) := by decide +kernel
theorem d_TileForge_fill_98 : decode prog_1_method_4_code 98 = .ok (.isub, 1) := by decide +kernel
theorem d_TileForge_fill_99 : decode prog_1_method_4_code 99 = .ok (.imul, 1) := by decide +kernel
theorem d_TileForge_fill_100 : decode prog_1_method_4_code 100 = .ok (.iadd, 1) := by decide +kernel
theorem d_TileForge_fill_101 : decode prog_1_method_4_code 101 = .ok (.iload 5, 2) := by decide +kernel
theorem d_TileForge_fill_103 : decode prog_1_method_4_code 103 = .ok (.iload 7, 2) := by decide +kernel
theorem d_TileForge_fill_105 : decode prog_1_method_4_code 105 = .ok (.iload_n 2, 1) := by decide +kernel
theorem d_TileForge_fill_106 : decode prog_1_method_4_code 106 = .ok (.isub, 1) := by decide +kernel
theorem d_TileForge_fill_107 : decode prog_1_method_4_code 107 = .ok (.imul, 1) := by decide +kernel
theorem d_TileForge_fill_108 : decode prog_1_method_4_code 108 = .ok (.iadd, 1) := by decide +kernel
theorem d_TileForge_fill_109 : decode prog_1_method_4_code 109 = .ok (.invokestatic 82, 3) := by decide +kernel
theorem d_TileForge_fill_112 : decode prog_1_method_4_code 112 = .ok (.invokevirtual 68, 3) := by decide +kernel
theorem d_TileForge_fill_115 : decode prog_1_method_4_code 115 = .ok (.iinc 6 1, 3) := by decide +kernel
theorem d_TileForge_fill_118 : decode prog_1_method_4_code 118 = .ok (.iinc 8 1, 3) := by decide +kernel
theorem d_TileForge_fill_121 : decode prog_1_method_4_code 121 = .ok (.goto (-49), 3) := by decide +kernel
theorem d_TileForge_fill_124 : decode prog_1_method_4_code 124 = .ok (.iinc 7 1, 3) := by decide +kernel
theorem d_TileForge_fill_127 : decode prog_1_method_4_code 127 = .ok (.goto (-70), 3) := by decide +kernel
theorem d_TileForge_fill_130 : decode prog_1_method_4_code 130 = .ok (.iload 6, 2) := by decide +kernel
theorem d_TileForge_fill_132 : decode prog_1_method_4_code 132 = .ok (.ireturn, 1) := by decide +kernel
theorem mw_506 : (.methodLink "TileForge" 72 ⟨"TileForge", "isSlope", "(I)Z"⟩ : Cond) ∈ GW := List.mem_filter.mpr ⟨(List.mem_append_right _ (List.mem_append_right _ (List.mem_append_left _ (List.mem_of_getElem? (i := 131) rfl)))), rfl⟩
theorem mw_507 : (.static ⟨"TileForge", "isSlope", "(I)Z"⟩ : Cond) ∈ GW := List.mem_filter.mpr ⟨(List.mem_append_right _ (List.mem_append_right _ (List.mem_append_left _ (List.mem_of_getElem? (i := 132) rfl)))), rfl⟩
theorem mw_508 : (.methodLink "TileForge" 82 ⟨"TileForge", "clipped", "(I)I"⟩ : Cond) ∈ GW := List.mem_filter.mpr ⟨(List.mem_append_right _ (List.mem_append_right _ (List.mem_append_left _ (List.mem_of_getElem? (i := 134) rfl)))), rfl⟩
def q_tf_fill (cI : ClassId) (f0 : Nat) (a1 : Nat) (c1 : Nat) (r1 : Nat) (y1 : Nat) (k1 : Nat) (j1 : Nat) (ibc : Int32) (ilc : Int32) (igl : Int32) (ibk : Int32) (ifa : Int32) (ibd : Int32) (a2 : Nat) (a3 : Nat) (px : Nat → Int32) (md : Nat → Int32) (vz : Int32) (vk : Int32) (x : Nat) (y : Nat) (pw : Nat) (ph : Nat) (v : Int32) (g : Int32) (h : Int32) : Int32 → va_W → Prop := fun rr ww => rr = (nI ((ph - y) * (pw - x))) ∧ ww = [(f0, .inr (8, [.ref a1, .ref c1, .ref r1, .ref y1, .ref k1, .ref j1, .int ibc, .int ilc, .int igl, .int ibk, .int ifa, .int ibd])), (a1, .inr (5, [.ref a2, .ref a3, .int vz, .int (nI pw), .int (nI ph), .int vk])), (a2, .inl (cI, 144, .inl (flF px x y v g h pw ph x))), (a3, .inl (cI, 9, .inl md))]
set_option maxHeartbeats 4000000 in
set_option maxRecDepth 100000 in
theorem c_tf_fill (l : Launch) {D : va_G} {tys : List (ClassId × FieldType)} {cI : ClassId} (hcI : tys[0]? = some (cI, .int)) (f0 : Nat) (a1 : Nat) (c1 : Nat) (r1 : Nat) (y1 : Nat) (k1 : Nat) (j1 : Nat) (ibc : Int32) (ilc : Int32) (igl : Int32) (ibk : Int32) (ifa : Int32) (ibd : Int32) (a2 : Nat) (a3 : Nat) (px : Nat → Int32) (md : Nat → Int32) (vz : Int32) (vk : Int32) (x : Nat) (y : Nat) (pw : Nat) (ph : Nat) (v : Int32) (g : Int32) (h : Int32) (hvv : ¬ v < 0 ∧ ¬ 255 < v) (hgg : ¬ g < (-255) ∧ ¬ 255 < g) (hhh : ¬ h < (-255) ∧ ¬ 255 < h) (hx1 : x < pw) (hy1 : y < ph) (hpw : pw ≤ 12) (hph : ph ≤ 12) : CsI l D vwCl tys y_TileForge_fill ws_TileForge_fill ({ frames := 2, cells := 0, slots := 0, locals := 45 } : Room) [.ref f0, .int (nI x), .int (nI y), .int v, .int g, .int h] [(f0, .inr (8, [.ref a1, .ref c1, .ref r1, .ref y1, .ref k1, .ref j1, .int ibc, .int ilc, .int igl, .int ibk, .int ifa, .int ibd])), (a1, .inr (5, [.ref a2, .ref a3, .int vz, .int (nI pw), .int (nI ph), .int vk])), (a2, .inl (cI, 144, .inl px)), (a3, .inl (cI, 9, .inl md))] (q_tf_fill cI f0 a1 c1 r1 y1 k1 j1 ibc ilc igl ibk ifa ibd a2 a3 px md vz vk x y pw ph v g h) 0 0 := by
  intro sz
  refine Met.ofW (cc := prog_1_method_4_code) (maxL := 9) (ret := (some .int)) (by decide) rfl ?_
  intro p e s m args below meth c s₁ B hml hv
  obtain ⟨rfl, hsz, hP, hK, hD0, hN⟩ := hv
  have hx := B.exec
  have hb := B.bytes
  have hr := B.returns
  have hts := atoms_spec (ws := ws_TileForge_fill) B.pre
  have hown : s.vm.findClass "TileForge" = some m.cls := findClass_of_methodNamed B.named
  have hlocks := B.notSynchronized
  subst hsz
  have hD := hD0.self (sz := s.heap.size)
  generalize hAe : va_A [(f0, .inr (8, [.ref a1, .ref c1, .ref r1, .ref y1, .ref k1, .ref j1, .int ibc, .int ilc, .int igl, .int ibk, .int ifa, .int ibd])), (a1, .inr (5, [.ref a2, .ref a3, .int vz, .int (nI pw), .int (nI ph), .int vk])), (a2, .inl (cI, 144, .inl px)), (a3, .inl (cI, 9, .inl md))] s.heap.size = A at hD ⊢
  have hA : ∀ q : Nat, s.heap.size ≤ q → A q := fun q h => by rw [← hAe]; exact Or.inr h
  have hS : va_S A s.heap s.heap [] := va_S.rf
  have hP : va_P D vwCl [(f0, .inr (8, [.ref a1, .ref c1, .ref r1, .ref y1, .ref k1, .ref j1, .int ibc, .int ilc, .int igl, .int ibk, .int ifa, .int ibd])), (a1, .inr (5, [.ref a2, .ref a3, .int vz, .int (nI pw), .int (nI ph), .int vk])), (a2, .inl (cI, 144, .inl px)), (a3, .inl (cI, 9, .inl md))] s.heap := hP
  have hl := lv_entry ([.ref f0, .int (nI x), .int (nI y), .int v, .int g, .int h]) (n := 9) (Nat.le_of_ble_eq_true rfl)
  rw [lg_entry_eq]
  generalize (lg_sl ([.ref f0, .int (nI x), .int (nI y), .int v, .int g, .int h]) ++ List.replicate (9 - (lg_sl ([.ref f0, .int (nI x), .int (nI y), .int v, .int g, .int h])).length) Slot.unset).toArray = ls at hl ⊢
  have hl : lv_has ls 9 [(0, .ref f0), (1, .int (nI x)), (2, .int (nI y)), (3, .int v), (4, .int g), (5, .int h)] := hl
  refine lv_iload_n hx hb d_TileForge_fill_0 rfl (lv_at hl 3 rfl) ?_
  refine cs_Si (As := [.int v]) (rest := []) (wr := [(f0, .inr (8, [.ref a1, .ref c1, .ref r1, .ref y1, .ref k1, .ref j1, .int ibc, .int ilc, .int igl, .int ibk, .int ifa, .int ibd])), (a1, .inr (5, [.ref a2, .ref a3, .int vz, .int (nI pw), .int (nI ph), .int vk])), (a2, .inl (cI, 144, .inl px)), (a3, .inl (cI, 9, .inl md))]) ⟨hx, hb, hml, hown, hts⟩ (c_isPixel l hcI v) (va_cwS 1 hts (cs_gS mw_501 mw_502 mw_139 mw_74) rfl rfl rfl hd_TileForge_isPixel ⟨Nat.le_of_ble_eq_true rfl, Nat.le_of_ble_eq_true rfl⟩) hN hK hP hD hS hA [] [0, 1, 2, 3] rfl rfl rfl rfl (by decide) rfl rfl hl.1 (Nat.le_of_ble_eq_true rfl) d_TileForge_fill_1 ⟨Nat.le_of_ble_eq_true rfl, Nat.le_of_ble_eq_true rfl⟩ (fun r1 w1 H locs hw hP hD hS => ?_)
  obtain ⟨rfl, rfl⟩ := hw
  have hP : va_P D vwCl [(f0, .inr (8, [.ref a1, .ref c1, .ref r1, .ref y1, .ref k1, .ref j1, .int ibc, .int ilc, .int igl, .int ibk, .int ifa, .int ibd])), (a1, .inr (5, [.ref a2, .ref a3, .int vz, .int (nI pw), .int (nI ph), .int vk])), (a2, .inl (cI, 144, .inl px)), (a3, .inl (cI, 9, .inl md))] H := hP
  have hD : va_D A [(f0, .inr (8, [.ref a1, .ref c1, .ref r1, .ref y1, .ref k1, .ref j1, .int ibc, .int ilc, .int igl, .int ibk, .int ifa, .int ibd])), (a1, .inr (5, [.ref a2, .ref a3, .int vz, .int (nI pw), .int (nI ph), .int vk])), (a2, .inl (cI, 144, .inl px)), (a3, .inl (cI, 9, .inl md))] := hD
  refine lv_if_eq (tgt := 23) hx hb d_TileForge_fill_4 (by decide) (fun c_4 => ?_) (fun c_4 => ?_)
  · have c_4 := cs_b0 c_4
    exact absurd hvv c_4
  · have c_4 := cs_b1 c_4
    refine lv_iload hx hb d_TileForge_fill_7 (lv_at hl 4 rfl) ?_
    refine cs_Si (As := [.int g]) (rest := []) (wr := [(f0, .inr (8, [.ref a1, .ref c1, .ref r1, .ref y1, .ref k1, .ref j1, .int ibc, .int ilc, .int igl, .int ibk, .int ifa, .int ibd])), (a1, .inr (5, [.ref a2, .ref a3, .int vz, .int (nI pw), .int (nI ph), .int vk])), (a2, .inl (cI, 144, .inl px)), (a3, .inl (cI, 9, .inl md))]) ⟨hx, hb, hml, hown, hts⟩ (c_isSlope l hcI g) (va_cwS 1 hts (cs_gS mw_506 mw_507 mw_139 mw_75) rfl rfl rfl hd_TileForge_isSlope ⟨Nat.le_of_ble_eq_true rfl, Nat.le_of_ble_eq_true rfl⟩) hN hK hP hD hS hA [] [0, 1, 2, 3] rfl rfl rfl rfl (by decide) rfl rfl hl.1 (Nat.le_of_ble_eq_true rfl) d_TileForge_fill_9 ⟨Nat.le_of_ble_eq_true rfl, Nat.le_of_ble_eq_true rfl⟩ (fun r2 w1 H locs hw hP hD hS => ?_)
    obtain ⟨rfl, rfl⟩ := hw
    have hP : va_P D vwCl [(f0, .inr (8, [.ref a1, .ref c1, .ref r1, .ref y1, .ref k1, .ref j1, .int ibc, .int ilc, .int igl, .int ibk, .int ifa, .int ibd])), (a1, .inr (5, [.ref a2, .ref a3, .int vz, .int (nI pw), .int (nI ph), .int vk])), (a2, .inl (cI, 144, .inl px)), (a3, .inl (cI, 9, .inl md))] H := hP
    have hD : va_D A [(f0, .inr (8, [.ref a1, .ref c1, .ref r1, .ref y1, .ref k1, .ref j1, .int ibc, .int ilc, .int igl, .int ibk, .int ifa, .int ibd])), (a1, .inr (5, [.ref a2, .ref a3, .int vz, .int (nI pw), .int (nI ph), .int vk])), (a2, .inl (cI, 144, .inl px)), (a3, .inl (cI, 9, .inl md))] := hD
    refine lv_if_eq (tgt := 23) hx hb d_TileForge_fill_12 (by decide) (fun c_12 => ?_) (fun c_12 => ?_)
    · have c_12 := cs_b0 c_12
      exact absurd hgg c_12
    · have c_12 := cs_b1 c_12
      refine lv_iload hx hb d_TileForge_fill_15 (lv_at hl 5 rfl) ?_
      refine cs_Si (As := [.int h]) (rest := []) (wr := [(f0, .inr (8, [.ref a1, .ref c1, .ref r1, .ref y1, .ref k1, .ref j1, .int ibc, .int ilc, .int igl, .int ibk, .int ifa, .int ibd])), (a1, .inr (5, [.ref a2, .ref a3, .int vz, .int (nI pw), .int (nI ph), .int vk])), (a2, .inl (cI, 144, .inl px)), (a3, .inl (cI, 9, .inl md))]) ⟨hx, hb, hml, hown, hts⟩ (c_isSlope l hcI h) (va_cwS 1 hts (cs_gS mw_506 mw_507 mw_139 mw_75) rfl rfl rfl hd_TileForge_isSlope ⟨Nat.le_of_ble_eq_true rfl, Nat.le_of_ble_eq_true rfl⟩) hN hK hP hD hS hA [] [0, 1, 2, 3] rfl rfl rfl rfl (by decide) rfl rfl hl.1 (Nat.le_of_ble_eq_true rfl) d_TileForge_fill_17 ⟨Nat.le_of_ble_eq_true rfl, Nat.le_of_ble_eq_true rfl⟩ (fun r3 w1 H locs hw hP hD hS => ?_)
      obtain ⟨rfl, rfl⟩ := hw
      have hP : va_P D vwCl [(f0, .inr (8, [.ref a1, .ref c1, .ref r1, .ref y1, .ref k1, .ref j1, .int ibc, .int ilc, .int igl, .int ibk, .int ifa, .int ibd])), (a1, .inr (5, [.ref a2, .ref a3, .int vz, .int (nI pw), .int (nI ph), .int vk])), (a2, .inl (cI, 144, .inl px)), (a3, .inl (cI, 9, .inl md))] H := hP
      have hD : va_D A [(f0, .inr (8, [.ref a1, .ref c1, .ref r1, .ref y1, .ref k1, .ref j1, .int ibc, .int ilc, .int igl, .int ibk, .int ifa, .int ibd])), (a1, .inr (5, [.ref a2, .ref a3, .int vz, .int (nI pw), .int (nI ph), .int vk])), (a2, .inl (cI, 144, .inl px)), (a3, .inl (cI, 9, .inl md))] := hD
      refine lv_if_ne (tgt := 31) hx hb d_TileForge_fill_20 (by decide) (fun c_20 => ?_) (fun c_20 => ?_)
      · have c_20 := cs_b1 c_20
        refine lv_aload_n hx hb d_TileForge_fill_31 rfl (lv_at hl 0 rfl) ?_
        refine va_get (D := D) (ci := 8) (v := .ref a1) (C := "TileForge") (T := T_TileForge) (N := 12) hx hb hts (cs_in in_TileForge) hown hK hP 0 rfl rfl 0 (by decide) (hts _ (cs_m mw_473)) (fun _ h9 => h9) rfl d_TileForge_fill_32 ?_
        refine lv_iload_n hx hb d_TileForge_fill_35 rfl (lv_at hl 1 rfl) ?_
        refine lv_iload_n hx hb d_TileForge_fill_36 rfl (lv_at hl 2 rfl) ?_
        refine cs_Vi (As := [.int (nI x), .int (nI y)]) (rest := []) (wr := [(f0, .inr (8, [.ref a1, .ref c1, .ref r1, .ref y1, .ref k1, .ref j1, .int ibc, .int ilc, .int igl, .int ibk, .int ifa, .int ibd]))]) ⟨hx, hb, hml, hown, hts⟩ (c_pic_has l hcI a1 a2 a3 px md vz (nI pw) (nI ph) vk (nI x) (nI y)) (cwV 2 hts (cs_gV mw_503 mw_95 mw_96 mw_93 mw_91) rfl rfl rfl ⟨rfl, hd_Picture_has⟩ ⟨Nat.le_of_ble_eq_true rfl, Nat.le_of_ble_eq_true rfl⟩) hN hK hP hD hS hA [1, 2, 3] [0] rfl rfl rfl rfl (by decide) (ci := 5) rfl rfl rfl rfl rfl hl.1 (Nat.le_of_ble_eq_true rfl) d_TileForge_fill_37 ⟨Nat.le_of_ble_eq_true rfl, Nat.le_of_ble_eq_true rfl⟩ (fun r4 w1 H locs hw hP hD hS => ?_)
        obtain ⟨rfl, rfl⟩ := hw
        have hP : va_P D vwCl [(f0, .inr (8, [.ref a1, .ref c1, .ref r1, .ref y1, .ref k1, .ref j1, .int ibc, .int ilc, .int igl, .int ibk, .int ifa, .int ibd])), (a1, .inr (5, [.ref a2, .ref a3, .int vz, .int (nI pw), .int (nI ph), .int vk])), (a2, .inl (cI, 144, .inl px)), (a3, .inl (cI, 9, .inl md))] H := hP
        have hD : va_D A [(f0, .inr (8, [.ref a1, .ref c1, .ref r1, .ref y1, .ref k1, .ref j1, .int ibc, .int ilc, .int igl, .int ibk, .int ifa, .int ibd])), (a1, .inr (5, [.ref a2, .ref a3, .int vz, .int (nI pw), .int (nI ph), .int vk])), (a2, .inl (cI, 144, .inl px)), (a3, .inl (cI, 9, .inl md))] := hD
        refine lv_if_ne (tgt := 51) hx hb d_TileForge_fill_40 (by decide) (fun c_40 => ?_) (fun c_40 => ?_)
        · have c_40 := cs_b1 c_40
          refine lv_iconst (v := 0) hx hb d_TileForge_fill_51 (by decide) ?_
          refine lv_istore (lv' := [(6, .int 0), (0, .ref f0), (1, .int (nI x)), (2, .int (nI y)), (3, .int v), (4, .int g), (5, .int h)]) hx hb d_TileForge_fill_52 hl (by decide) rfl (fun ls hl => ?_)
          refine lv_iload_n hx hb d_TileForge_fill_54 rfl (lv_at hl 3 rfl) ?_
          refine lv_istore (lv' := [(7, .int (nI y)), (6, .int 0), (0, .ref f0), (1, .int (nI x)), (2, .int (nI y)), (3, .int v), (4, .int g), (5, .int h)]) hx hb d_TileForge_fill_55 hl (by decide) rfl (fun ls hl => ?_)
          have lp57 : ∀ (n : Nat) (jj : Nat) (f : Nat → Int32) (cnt : Nat), (13 ≤ jj + n) → (y ≤ jj ∧ jj ≤ ph) → (f = flF px x y v g h pw jj x) → (cnt = (jj - y) * (pw - x)) → ∀ (H : Heap) (locs : List Loc) (ls : Array Slot), va_P D vwCl [(f0, .inr (8, [.ref a1, .ref c1, .ref r1, .ref y1, .ref k1, .ref j1, .int ibc, .int ilc, .int igl, .int ibk, .int ifa, .int ibd])), (a1, .inr (5, [.ref a2, .ref a3, .int vz, .int (nI pw), .int (nI ph), .int vk])), (a2, .inl (cI, 144, .inl f)), (a3, .inl (cI, 9, .inl md))] H → va_D A [(f0, .inr (8, [.ref a1, .ref c1, .ref r1, .ref y1, .ref k1, .ref j1, .int ibc, .int ilc, .int igl, .int ibk, .int ifa, .int ibd])), (a1, .inr (5, [.ref a2, .ref a3, .int vz, .int (nI pw), .int (nI ph), .int vk])), (a2, .inl (cI, 144, .inl f)), (a3, .inl (cI, 9, .inl md))] → va_S A s.heap H locs → lv_has ls 9 [(0, .ref f0), (1, .int (nI x)), (2, .int (nI y)), (3, .int v), (4, .int g), (5, .int h), (6, .int (nI cnt)), (7, .int (nI jj))] → W p l e ({ frames := 2, cells := 0, slots := 0, locals := 45 } : Room) s m ([.ref f0, .int (nI x), .int (nI y), .int v, .int g, .int h] : List Value).toArray below meth c H locs 0 0 (MQ below (va_Qi (q_tf_fill cI f0 a1 c1 r1 y1 k1 j1 ibc ilc igl ibk ifa ibd a2 a3 px md vz vk x y pw ph v g h) (cs_B D vwCl tys A) A) ([.ref f0, .int (nI x), .int (nI y), .int v, .int g, .int h] : List Value).toArray s 0 0 A) (F0 m 57 ls []) := by
            intro n
            induction n with
            | zero =>
              intro jj f cnt hf hj hf2 hcn
              exact absurd hf (by omega)
            | succ n ih57 =>
              intro jj f cnt hf hj hf2 hcn H locs ls hP hD hS hl
              refine lv_iload hx hb d_TileForge_fill_57 (lv_at hl 7 rfl) ?_
              refine lv_aload_n hx hb d_TileForge_fill_59 rfl (lv_at hl 0 rfl) ?_
              refine va_get (D := D) (ci := 8) (v := .ref a1) (C := "TileForge") (T := T_TileForge) (N := 12) hx hb hts (cs_in in_TileForge) hown hK hP 0 rfl rfl 0 (by decide) (hts _ (cs_m mw_473)) (fun _ h9 => h9) rfl d_TileForge_fill_60 ?_
              refine va_get (D := D) (ci := 5) (v := .int (nI ph)) (C := "TileForge$Picture") (T := T_Picture) (N := 6) hx hb hts (cs_in in_Picture) hown hK hP 1 rfl rfl 4 (by decide) (hts _ (cs_m mw_477)) (fun _ h9 => h9) rfl d_TileForge_fill_63 ?_
              refine lv_icmp_ge (tgt := 130) hx hb d_TileForge_fill_66 (by decide) (fun c_66 => ?_) (fun c_66 => ?_)
              · have hj2 := (nI_leI (a := ph) (b := jj) (by omega) (by omega)).mp c_66
                have hj3 : jj = ph := by omega
                refine lv_iload hx hb d_TileForge_fill_130 (lv_at hl 6 rfl) ?_
                exact W.iret (v := (nI cnt)) hx hb hr (fun t ht hW => ⟨⟨(nI cnt), [(f0, .inr (8, [.ref a1, .ref c1, .ref r1, .ref y1, .ref k1, .ref j1, .int ibc, .int ilc, .int igl, .int ibk, .int ifa, .int ibd])), (a1, .inr (5, [.ref a2, .ref a3, .int vz, .int (nI pw), .int (nI ph), .int vk])), (a2, .inl (cI, 144, .inl f)), (a3, .inl (cI, 9, .inl md))], rfl, ⟨(by rw [hcn, hj3]), (by rw [hf2, hj3])⟩, by rw [ht]; exact hP, va_K.moved hW.alike hK, hD⟩, hS.F ht⟩) hS.2.2 d_TileForge_fill_132
              · have hj2 : jj < ph := Nat.not_le.mp (fun q => c_66 ((nI_leI (a := ph) (b := jj) (by omega) (by omega)).mpr q))
                refine lv_iload_n hx hb d_TileForge_fill_69 rfl (lv_at hl 1 rfl) ?_
                refine lv_istore (lv' := [(8, .int (nI x)), (0, .ref f0), (1, .int (nI x)), (2, .int (nI y)), (3, .int v), (4, .int g), (5, .int h), (6, .int (nI cnt)), (7, .int (nI jj))]) hx hb d_TileForge_fill_70 hl (by decide) rfl (fun ls hl => ?_)
                have lp72 : ∀ (n : Nat) (ii : Nat) (f : Nat → Int32) (cnt : Nat), (13 ≤ ii + n) → (x ≤ ii ∧ ii ≤ pw) → (f = flF px x y v g h pw jj ii) → (cnt = (jj - y) * (pw - x) + (ii - x)) → ∀ (H : Heap) (locs : List Loc) (ls : Array Slot), va_P D vwCl [(f0, .inr (8, [.ref a1, .ref c1, .ref r1, .ref y1, .ref k1, .ref j1, .int ibc, .int ilc, .int igl, .int ibk, .int ifa, .int ibd])), (a1, .inr (5, [.ref a2, .ref a3, .int vz, .int (nI pw), .int (nI ph), .int vk])), (a2, .inl (cI, 144, .inl f)), (a3, .inl (cI, 9, .inl md))] H → va_D A [(f0, .inr (8, [.ref a1, .ref c1, .ref r1, .ref y1, .ref k1, .ref j1, .int ibc, .int ilc, .int igl, .int ibk, .int ifa, .int ibd])), (a1, .inr (5, [.ref a2, .ref a3, .int vz, .int (nI pw), .int (nI ph), .int vk])), (a2, .inl (cI, 144, .inl f)), (a3, .inl (cI, 9, .inl md))] → va_S A s.heap H locs → lv_has ls 9 [(0, .ref f0), (1, .int (nI x)), (2, .int (nI y)), (3, .int v), (4, .int g), (5, .int h), (6, .int (nI cnt)), (7, .int (nI jj)), (8, .int (nI ii))] → W p l e ({ frames := 2, cells := 0, slots := 0, locals := 45 } : Room) s m ([.ref f0, .int (nI x), .int (nI y), .int v, .int g, .int h] : List Value).toArray below meth c H locs 0 0 (MQ below (va_Qi (q_tf_fill cI f0 a1 c1 r1 y1 k1 j1 ibc ilc igl ibk ifa ibd a2 a3 px md vz vk x y pw ph v g h) (cs_B D vwCl tys A) A) ([.ref f0, .int (nI x), .int (nI y), .int v, .int g, .int h] : List Value).toArray s 0 0 A) (F0 m 72 ls []) := by
                  intro n
                  induction n with
                  | zero =>
                    intro ii f cnt hf hi hf3 hcn
                    exact absurd hf (by omega)
                  | succ n ih72 =>
                    intro ii f cnt hf hi hf3 hcn H locs ls hP hD hS hl
                    refine lv_iload hx hb d_TileForge_fill_72 (lv_at hl 8 rfl) ?_
                    refine lv_aload_n hx hb d_TileForge_fill_74 rfl (lv_at hl 0 rfl) ?_
                    refine va_get (D := D) (ci := 8) (v := .ref a1) (C := "TileForge") (T := T_TileForge) (N := 12) hx hb hts (cs_in in_TileForge) hown hK hP 0 rfl rfl 0 (by decide) (hts _ (cs_m mw_473)) (fun _ h9 => h9) rfl d_TileForge_fill_75 ?_
                    refine va_get (D := D) (ci := 5) (v := .int (nI pw)) (C := "TileForge$Picture") (T := T_Picture) (N := 6) hx hb hts (cs_in in_Picture) hown hK hP 1 rfl rfl 3 (by decide) (hts _ (cs_m mw_478)) (fun _ h9 => h9) rfl d_TileForge_fill_78 ?_
                    refine lv_icmp_ge (tgt := 124) hx hb d_TileForge_fill_81 (by decide) (fun c_81 => ?_) (fun c_81 => ?_)
                    · have hi2 := (nI_leI (a := pw) (b := ii) (by omega) (by omega)).mp c_81
                      have hi3 : ii = pw := by omega
                      refine lv_iinc (v := nI (jj + 1)) (lv' := [(7, .int (nI (jj + 1))), (0, .ref f0), (1, .int (nI x)), (2, .int (nI y)), (3, .int v), (4, .int g), (5, .int h), (6, .int (nI cnt)), (8, .int (nI ii))]) hx hb d_TileForge_fill_124 hl (k := 7) rfl (nI_1 _) (by decide) rfl (fun ls hl => ?_)
                      refine lv_goto (tgt := 57) hx hb d_TileForge_fill_127 (by decide) ?_
                      exact ih57 (jj + 1) f cnt (by omega) (by omega) (by rw [hf3]; exact flF_r (by omega)) (by rw [show jj + 1 - y = (jj - y) + 1 by omega, Nat.succ_mul]; omega) _ _ _ (hP.sub (ws' := [(f0, .inr (8, [.ref a1, .ref c1, .ref r1, .ref y1, .ref k1, .ref j1, .int ibc, .int ilc, .int igl, .int ibk, .int ifa, .int ibd])), (a1, .inr (5, [.ref a2, .ref a3, .int vz, .int (nI pw), .int (nI ph), .int vk])), (a2, .inl (cI, 144, .inl f)), (a3, .inl (cI, 9, .inl md))]) [0, 1, 2, 3] rfl) (hD.sub (ws' := [(f0, .inr (8, [.ref a1, .ref c1, .ref r1, .ref y1, .ref k1, .ref j1, .int ibc, .int ilc, .int igl, .int ibk, .int ifa, .int ibd])), (a1, .inr (5, [.ref a2, .ref a3, .int vz, .int (nI pw), .int (nI ph), .int vk])), (a2, .inl (cI, 144, .inl f)), (a3, .inl (cI, 9, .inl md))]) [0, 1, 2, 3] (by decide) rfl) hS (lv_sub hl [1, 2, 3, 4, 5, 6, 7, 0] rfl)
                    · have hi2 : ii < pw := Nat.not_le.mp (fun q => c_81 ((nI_leI (a := pw) (b := ii) (by omega) (by omega)).mpr q))
                      refine lv_aload_n hx hb d_TileForge_fill_84 rfl (lv_at hl 0 rfl) ?_
                      refine va_get (D := D) (ci := 8) (v := .ref a1) (C := "TileForge") (T := T_TileForge) (N := 12) hx hb hts (cs_in in_TileForge) hown hK hP 0 rfl rfl 0 (by decide) (hts _ (cs_m mw_473)) (fun _ h9 => h9) rfl d_TileForge_fill_85 ?_
                      refine lv_iload hx hb d_TileForge_fill_88 (lv_at hl 8 rfl) ?_
                      refine lv_iload hx hb d_TileForge_fill_90 (lv_at hl 7 rfl) ?_
                      refine lv_iload_n hx hb d_TileForge_fill_92 rfl (lv_at hl 3 rfl) ?_
                      refine lv_iload hx hb d_TileForge_fill_93 (lv_at hl 4 rfl) ?_
                      refine lv_iload hx hb d_TileForge_fill_95 (lv_at hl 8 rfl) ?_
                      refine lv_iload_n hx hb d_TileForge_fill_97 rfl (lv_at hl 1 rfl) ?_
                      refine lv_isub hx hb d_TileForge_fill_98 ?_
                      refine lv_imul hx hb d_TileForge_fill_99 ?_
                      refine lv_iadd hx hb d_TileForge_fill_100 ?_
                      refine lv_iload hx hb d_TileForge_fill_101 (lv_at hl 5 rfl) ?_
                      refine lv_iload hx hb d_TileForge_fill_103 (lv_at hl 7 rfl) ?_
                      refine lv_iload_n hx hb d_TileForge_fill_105 rfl (lv_at hl 2 rfl) ?_
                      refine lv_isub hx hb d_TileForge_fill_106 ?_
                      refine lv_imul hx hb d_TileForge_fill_107 ?_
                      refine lv_iadd hx hb d_TileForge_fill_108 ?_
                      refine cs_Si (As := [.int ((v + (g * ((nI ii) - (nI x)))) + (h * ((nI jj) - (nI y))))]) (rest := [.int (nI jj), .int (nI ii), .ref a1]) (wr := [(f0, .inr (8, [.ref a1, .ref c1, .ref r1, .ref y1, .ref k1, .ref j1, .int ibc, .int ilc, .int igl, .int ibk, .int ifa, .int ibd])), (a1, .inr (5, [.ref a2, .ref a3, .int vz, .int (nI pw), .int (nI ph), .int vk])), (a2, .inl (cI, 144, .inl f)), (a3, .inl (cI, 9, .inl md))]) ⟨hx, hb, hml, hown, hts⟩ (c_clipped l hcI ((v + (g * ((nI ii) - (nI x)))) + (h * ((nI jj) - (nI y))))) (va_cwS 1 hts (cs_gS mw_508 mw_203 mw_139 mw_78) rfl rfl rfl hd_TileForge_clipped ⟨Nat.le_of_ble_eq_true rfl, Nat.le_of_ble_eq_true rfl⟩) hN hK hP hD hS hA [] [0, 1, 2, 3] rfl rfl rfl rfl (by decide) rfl rfl hl.1 (Nat.le_of_ble_eq_true rfl) d_TileForge_fill_109 ⟨Nat.le_of_ble_eq_true rfl, Nat.le_of_ble_eq_true rfl⟩ (fun r5 w1 H locs hw hP hD hS => ?_)
                      obtain ⟨rfl, rfl⟩ := hw
                      have hP : va_P D vwCl [(f0, .inr (8, [.ref a1, .ref c1, .ref r1, .ref y1, .ref k1, .ref j1, .int ibc, .int ilc, .int igl, .int ibk, .int ifa, .int ibd])), (a1, .inr (5, [.ref a2, .ref a3, .int vz, .int (nI pw), .int (nI ph), .int vk])), (a2, .inl (cI, 144, .inl f)), (a3, .inl (cI, 9, .inl md))] H := hP
                      have hD : va_D A [(f0, .inr (8, [.ref a1, .ref c1, .ref r1, .ref y1, .ref k1, .ref j1, .int ibc, .int ilc, .int igl, .int ibk, .int ifa, .int ibd])), (a1, .inr (5, [.ref a2, .ref a3, .int vz, .int (nI pw), .int (nI ph), .int vk])), (a2, .inl (cI, 144, .inl f)), (a3, .inl (cI, 9, .inl md))] := hD
                      refine cs_Vv (As := [.int (nI ii), .int (nI jj), .int (clip ((v + (g * ((nI ii) - (nI x)))) + (h * ((nI jj) - (nI y)))))]) (rest := []) (wr := [(f0, .inr (8, [.ref a1, .ref c1, .ref r1, .ref y1, .ref k1, .ref j1, .int ibc, .int ilc, .int igl, .int ibk, .int ifa, .int ibd]))]) ⟨hx, hb, hml, hown, hts⟩ (c_pic_put l hcI a1 a2 a3 f md vz (nI pw) (nI ph) vk ii jj (clip ((v + (g * ((nI ii) - (nI x)))) + (h * ((nI jj) - (nI y))))) (by omega) (by omega) (nI_lt (by omega) (by omega)) (nI_lt (by omega) (by omega))) (cwV 3 hts (cs_gV mw_504 mw_227 mw_228 mw_93 mw_97) rfl rfl rfl ⟨rfl, hd_Picture_put⟩ ⟨Nat.le_of_ble_eq_true rfl, Nat.le_of_ble_eq_true rfl⟩) hN hK hP hD hS hA [1, 2, 3] [0] rfl rfl rfl rfl (by decide) (ci := 5) rfl rfl rfl rfl rfl hl.1 (Nat.le_of_ble_eq_true rfl) d_TileForge_fill_112 ⟨Nat.le_of_ble_eq_true rfl, Nat.le_of_ble_eq_true rfl⟩ (fun w1 H locs hw hP hD hS => ?_)
                      obtain rfl := hw
                      have hP : va_P D vwCl [(f0, .inr (8, [.ref a1, .ref c1, .ref r1, .ref y1, .ref k1, .ref j1, .int ibc, .int ilc, .int igl, .int ibk, .int ifa, .int ibd])), (a1, .inr (5, [.ref a2, .ref a3, .int vz, .int (nI pw), .int (nI ph), .int vk])), (a2, .inl (cI, 144, .inl (upd f (jj * 12 + ii) (clip ((v + (g * ((nI ii) - (nI x)))) + (h * ((nI jj) - (nI y)))))))), (a3, .inl (cI, 9, .inl md))] H := hP
                      have hD : va_D A [(f0, .inr (8, [.ref a1, .ref c1, .ref r1, .ref y1, .ref k1, .ref j1, .int ibc, .int ilc, .int igl, .int ibk, .int ifa, .int ibd])), (a1, .inr (5, [.ref a2, .ref a3, .int vz, .int (nI pw), .int (nI ph), .int vk])), (a2, .inl (cI, 144, .inl (upd f (jj * 12 + ii) (clip ((v + (g * ((nI ii) - (nI x)))) + (h * ((nI jj) - (nI y)))))))), (a3, .inl (cI, 9, .inl md))] := hD
                      refine lv_iinc (v := nI (cnt + 1)) (lv' := [(6, .int (nI (cnt + 1))), (0, .ref f0), (1, .int (nI x)), (2, .int (nI y)), (3, .int v), (4, .int g), (5, .int h), (7, .int (nI jj)), (8, .int (nI ii))]) hx hb d_TileForge_fill_115 hl (k := 6) rfl (nI_1 _) (by decide) rfl (fun ls hl => ?_)
                      refine lv_iinc (v := nI (ii + 1)) (lv' := [(8, .int (nI (ii + 1))), (6, .int (nI (cnt + 1))), (0, .ref f0), (1, .int (nI x)), (2, .int (nI y)), (3, .int v), (4, .int g), (5, .int h), (7, .int (nI jj))]) hx hb d_TileForge_fill_118 hl (k := 8) rfl (nI_1 _) (by decide) rfl (fun ls hl => ?_)
                      refine lv_goto (tgt := 72) hx hb d_TileForge_fill_121 (by decide) ?_
                      exact ih72 (ii + 1) (upd f (jj * 12 + ii) (clip ((v + (g * ((nI ii) - (nI x)))) + (h * ((nI jj) - (nI y)))))) (cnt + 1) (by omega) (by omega) (by rw [hf3]; exact flF_s (by omega) (by omega) hpw (by omega) (by omega)) (by omega) _ _ _ (hP.sub (ws' := [(f0, .inr (8, [.ref a1, .ref c1, .ref r1, .ref y1, .ref k1, .ref j1, .int ibc, .int ilc, .int igl, .int ibk, .int ifa, .int ibd])), (a1, .inr (5, [.ref a2, .ref a3, .int vz, .int (nI pw), .int (nI ph), .int vk])), (a2, .inl (cI, 144, .inl (upd f (jj * 12 + ii) (clip ((v + (g * ((nI ii) - (nI x)))) + (h * ((nI jj) - (nI y)))))))), (a3, .inl (cI, 9, .inl md))]) [0, 1, 2, 3] rfl) (hD.sub (ws' := [(f0, .inr (8, [.ref a1, .ref c1, .ref r1, .ref y1, .ref k1, .ref j1, .int ibc, .int ilc, .int igl, .int ibk, .int ifa, .int ibd])), (a1, .inr (5, [.ref a2, .ref a3, .int vz, .int (nI pw), .int (nI ph), .int vk])), (a2, .inl (cI, 144, .inl (upd f (jj * 12 + ii) (clip ((v + (g * ((nI ii) - (nI x)))) + (h * ((nI jj) - (nI y)))))))), (a3, .inl (cI, 9, .inl md))]) [0, 1, 2, 3] (by decide) rfl) hS (lv_sub hl [2, 3, 4, 5, 6, 7, 1, 8, 0] rfl)
                exact lp72 (13) x f cnt (by omega) (by omega) (hf2) (by omega) _ _ _ (hP.sub (ws' := [(f0, .inr (8, [.ref a1, .ref c1, .ref r1, .ref y1, .ref k1, .ref j1, .int ibc, .int ilc, .int igl, .int ibk, .int ifa, .int ibd])), (a1, .inr (5, [.ref a2, .ref a3, .int vz, .int (nI pw), .int (nI ph), .int vk])), (a2, .inl (cI, 144, .inl f)), (a3, .inl (cI, 9, .inl md))]) [0, 1, 2, 3] rfl) (hD.sub (ws' := [(f0, .inr (8, [.ref a1, .ref c1, .ref r1, .ref y1, .ref k1, .ref j1, .int ibc, .int ilc, .int igl, .int ibk, .int ifa, .int ibd])), (a1, .inr (5, [.ref a2, .ref a3, .int vz, .int (nI pw), .int (nI ph), .int vk])), (a2, .inl (cI, 144, .inl f)), (a3, .inl (cI, 9, .inl md))]) [0, 1, 2, 3] (by decide) rfl) hS (lv_sub hl [1, 2, 3, 4, 5, 6, 7, 8, 0] rfl)
          exact lp57 (13) y px 0 (by omega) (by omega) (flF_0.symm) (by rw [Nat.sub_self, Nat.zero_mul]) _ _ _ (hP.sub (ws' := [(f0, .inr (8, [.ref a1, .ref c1, .ref r1, .ref y1, .ref k1, .ref j1, .int ibc, .int ilc, .int igl, .int ibk, .int ifa, .int ibd])), (a1, .inr (5, [.ref a2, .ref a3, .int vz, .int (nI pw), .int (nI ph), .int vk])), (a2, .inl (cI, 144, .inl px)), (a3, .inl (cI, 9, .inl md))]) [0, 1, 2, 3] rfl) (hD.sub (ws' := [(f0, .inr (8, [.ref a1, .ref c1, .ref r1, .ref y1, .ref k1, .ref j1, .int ibc, .int ilc, .int igl, .int ibk, .int ifa, .int ibd])), (a1, .inr (5, [.ref a2, .ref a3, .int vz, .int (nI pw), .int (nI ph), .int vk])), (a2, .inl (cI, 144, .inl px)), (a3, .inl (cI, 9, .inl md))]) [0, 1, 2, 3] (by decide) rfl) hS (lv_sub hl [2, 3, 4, 5, 6, 7, 1, 0] rfl)
        · have c_40 := cs_b0 c_40
          exact absurd (hasP_in (w := nI pw) (h := nI ph) (x := x) (y := y) (by omega) (by omega) (nI_lt hx1 (by omega)) (nI_lt hy1 (by omega))) c_40
      · have c_20 := cs_b0 c_20
        exact absurd hhh c_20
def y_TileForge_stream : MethodName := ⟨"TileForge", "stream", "(I)I"⟩
def ws_TileForge_stream : List Cond := .code y_TileForge_stream prog_1_method_7_code 2 (some .int) :: GW
theorem mw_509 : (.code ⟨"TileForge", "stream", "(I)I"⟩ prog_1_method_7_code 2 (some .int) : Cond) ∈ GW := List.mem_filter.mpr ⟨(List.mem_append_right _ (List.mem_append_right _ (List.mem_append_right _ (List.mem_append_left _ (List.mem_of_getElem? (i := 131) rfl))))), rfl⟩
theorem hd_TileForge_stream : y_TileForge_stream.cls ≠ "java/lang/invoke/MethodHandle" ∧ y_TileForge_stream.cls ≠ "java/lang/invoke/VarHandle" ∧ (parseMethodDescriptor y_TileForge_stream.desc).map (fun d => d.parameters.length) = some 1 := by decide +kernel
theorem d_TileForge_stream_0 : decode prog_1_method_7_code 0 = .ok (.iload_n 1, 1) := by decide +kernel
theorem d_TileForge_stream_1 : decode prog_1_method_7_code 1 = .ok (.iconst (-1), 1) := by decide +kernel
theorem d_TileForge_stream_2 : decode prog_1_method_7_code 2 = .ok (.if_icmp .ne 11, 3) := by decide +kernel
theorem d_TileForge_stream_5 : decode prog_1_method_7_code 5 = .ok (.aload_n 0, 1) := by decide +kernel
theorem d_TileForge_stream_6 : decode prog_1_method_7_code 6 = .ok (.getfield 29, 3) := by decide +kernel
theorem d_TileForge_stream_9 : decode prog_1_method_7_code 9 = .ok (.getfield 109, 3) := by decide +kernel
theorem d_TileForge_stream_12 : decode prog_1_method_7_code 12 = .ok (.ireturn, 1) := by decide +kernel
theorem d_TileForge_stream_13 : decode prog_1_method_7_code 13 = .ok (.aload_n 0, 1) := by decide +kernel
theorem d_TileForge_stream_14 : decode prog_1_method_7_code 14 = .ok (.getfield 29, 3) := by decide +kernel
theorem d_TileForge_stream_17 : decode prog_1_method_7_code 17 = .ok (.iload_n 1, 1) := by decide +kernel
theorem d_TileForge_stream_18 : decode prog_1_method_7_code 18 = .ok (.invokevirtual 138, 3) := by decide +kernel
theorem d_TileForge_stream_21 : decode prog_1_method_7_code 21 = .ok (.ifCond .ne 11, 3) := by decide +kernel
theorem d_TileForge_stream_24 : decode prog_1_method_7_code 24 = .ok (.new 61, 3) := by decide +kernel
theorem d_TileForge_stream_27 : decode prog_1_method_7_code 27 = .ok (.dup, 1) := by decide +kernel
theorem d_TileForge_stream_28 : decode prog_1_method_7_code 28 = .ok (.invokespecial 63, 3) := by decide +kernel
theorem d_TileForge_stream_31 : decode prog_1_method_7_code 31 = .ok (.athrow, 1) := by decide +kernel
theorem d_TileForge_stream_32 : decode prog_1_method_7_code 32 = .ok (.aload_n 0, 1) := by decide +kernel
theorem d_TileForge_stream_33 : decode prog_1_method_7_code 33 = .ok (.getfield 29, 3) := by decide +kernel
theorem d_TileForge_stream_36 : decode prog_1_method_7_code 36 = .ok (.getfield 140, 3) := by decide +kernel
theorem d_TileForge_stream_39 : decode prog_1_method_7_code 39 = .ok (.iload_n 1, 1) := by decide +kernel
theorem d_TileForge_stream_40 : decode prog_1_method_7_code 40 = .ok (.iaload, 1) := by decide +kernel
theorem d_TileForge_stream_41 : decode prog_1_method_7_code 41 = .ok (.ireturn, 1) := by decide +kernel
theorem mw_510 : (.fieldLink "TileForge" 109 "TileForge$ByteRow" "length" "I" : Cond) ∈ GW := List.mem_filter.mpr ⟨(List.mem_append_right _ (List.mem_append_left _ (List.mem_of_getElem? (i := 77) rfl))), rfl⟩
def q_tf_streamL (cI : ClassId) (f0 : Nat) (a1 : Nat) (c1 : Nat) (r1 : Nat) (y1 : Nat) (k1 : Nat) (j1 : Nat) (ibc : Int32) (ilc : Int32) (igl : Int32) (ibk : Int32) (ifa : Int32) (ibd : Int32) (y2 : Nat) (yt : Nat → Int32) (yl : Nat) (yp : Nat) : Int32 → va_W → Prop := fun rr ww => rr = (nI yl) ∧ ww = [(f0, .inr (8, [.ref a1, .ref c1, .ref r1, .ref y1, .ref k1, .ref j1, .int ibc, .int ilc, .int igl, .int ibk, .int ifa, .int ibd])), (y1, .inr (2, [.ref y2, .int (nI yl), .int (nI yp)])), (y2, .inl (cI, 400, .inl yt))]
set_option maxHeartbeats 4000000 in
set_option maxRecDepth 100000 in
theorem c_tf_streamL (l : Launch) {D : va_G} {tys : List (ClassId × FieldType)} {cI : ClassId} (hcI : tys[0]? = some (cI, .int)) (f0 : Nat) (a1 : Nat) (c1 : Nat) (r1 : Nat) (y1 : Nat) (k1 : Nat) (j1 : Nat) (ibc : Int32) (ilc : Int32) (igl : Int32) (ibk : Int32) (ifa : Int32) (ibd : Int32) (y2 : Nat) (yt : Nat → Int32) (yl : Nat) (yp : Nat) : CsI l D vwCl tys y_TileForge_stream ws_TileForge_stream ({ frames := 0, cells := 0, slots := 0, locals := 0 } : Room) [.ref f0, .int (-1)] [(f0, .inr (8, [.ref a1, .ref c1, .ref r1, .ref y1, .ref k1, .ref j1, .int ibc, .int ilc, .int igl, .int ibk, .int ifa, .int ibd])), (y1, .inr (2, [.ref y2, .int (nI yl), .int (nI yp)])), (y2, .inl (cI, 400, .inl yt))] (q_tf_streamL cI f0 a1 c1 r1 y1 k1 j1 ibc ilc igl ibk ifa ibd y2 yt yl yp) 0 0 := by
  intro sz
  refine Met.ofW (cc := prog_1_method_7_code) (maxL := 2) (ret := (some .int)) (by decide) rfl ?_
  intro p e s m args below meth c s₁ B hml hv
  obtain ⟨rfl, hsz, hP, hK, hD0, hN⟩ := hv
  have hx := B.exec
  have hb := B.bytes
  have hr := B.returns
  have hts := atoms_spec (ws := ws_TileForge_stream) B.pre
  have hown : s.vm.findClass "TileForge" = some m.cls := findClass_of_methodNamed B.named
  have hlocks := B.notSynchronized
  subst hsz
  have hD := hD0.self (sz := s.heap.size)
  generalize hAe : va_A [(f0, .inr (8, [.ref a1, .ref c1, .ref r1, .ref y1, .ref k1, .ref j1, .int ibc, .int ilc, .int igl, .int ibk, .int ifa, .int ibd])), (y1, .inr (2, [.ref y2, .int (nI yl), .int (nI yp)])), (y2, .inl (cI, 400, .inl yt))] s.heap.size = A at hD ⊢
  have hA : ∀ q : Nat, s.heap.size ≤ q → A q := fun q h => by rw [← hAe]; exact Or.inr h
  have hS : va_S A s.heap s.heap [] := va_S.rf
  have hP : va_P D vwCl [(f0, .inr (8, [.ref a1, .ref c1, .ref r1, .ref y1, .ref k1, .ref j1, .int ibc, .int ilc, .int igl, .int ibk, .int ifa, .int ibd])), (y1, .inr (2, [.ref y2, .int (nI yl), .int (nI yp)])), (y2, .inl (cI, 400, .inl yt))] s.heap := hP
  have hl := lv_entry ([.ref f0, .int (-1)]) (n := 2) (Nat.le_of_ble_eq_true rfl)
  rw [lg_entry_eq]
  generalize (lg_sl ([.ref f0, .int (-1)]) ++ List.replicate (2 - (lg_sl ([.ref f0, .int (-1)])).length) Slot.unset).toArray = ls at hl ⊢
  have hl : lv_has ls 2 [(0, .ref f0), (1, .int (-1))] := hl
  refine lv_iload_n hx hb d_TileForge_stream_0 rfl (lv_at hl 1 rfl) ?_
  refine lv_iconst (v := (-1)) hx hb d_TileForge_stream_1 (by decide) ?_
  refine lv_icmp_ne (tgt := 13) hx hb d_TileForge_stream_2 (by decide) (fun c_2 => ?_) (fun c_2 => ?_)
  · exact absurd rfl c_2
  · refine lv_aload_n hx hb d_TileForge_stream_5 rfl (lv_at hl 0 rfl) ?_
    refine va_get (D := D) (ci := 8) (v := .ref y1) (C := "TileForge") (T := T_TileForge) (N := 12) hx hb hts (cs_in in_TileForge) hown hK hP 0 rfl rfl 3 (by decide) (hts _ (cs_m mw_486)) (fun _ h9 => h9) rfl d_TileForge_stream_6 ?_
    refine va_get (D := D) (ci := 2) (v := .int (nI yl)) (C := "TileForge$ByteRow") (T := T_ByteRow) (N := 3) hx hb hts (cs_in in_ByteRow) hown hK hP 1 rfl rfl 1 (by decide) (hts _ (cs_m mw_510)) (fun _ h9 => h9) rfl d_TileForge_stream_9 ?_
    exact W.iret (v := (nI yl)) hx hb hr (fun t ht hW => ⟨⟨(nI yl), [(f0, .inr (8, [.ref a1, .ref c1, .ref r1, .ref y1, .ref k1, .ref j1, .int ibc, .int ilc, .int igl, .int ibk, .int ifa, .int ibd])), (y1, .inr (2, [.ref y2, .int (nI yl), .int (nI yp)])), (y2, .inl (cI, 400, .inl yt))], rfl, ⟨(rfl), (rfl)⟩, by rw [ht]; exact hP, va_K.moved hW.alike hK, hD⟩, hS.F ht⟩) hS.2.2 d_TileForge_stream_12
theorem mw_511 : (.methodLink "TileForge" 138 ⟨"TileForge$ByteRow", "has", "(I)Z"⟩ : Cond) ∈ GW := List.mem_filter.mpr ⟨(List.mem_append_right _ (List.mem_append_right _ (List.mem_append_right _ (List.mem_append_left _ (List.mem_of_getElem? (i := 132) rfl))))), rfl⟩
theorem mw_512 : (.instanceMethod ⟨"TileForge$ByteRow", "has", "(I)Z"⟩ : Cond) ∈ GW := List.mem_filter.mpr ⟨(List.mem_append_right _ (List.mem_append_right _ (List.mem_append_right _ (List.mem_append_left _ (List.mem_of_getElem? (i := 133) rfl))))), rfl⟩
theorem mw_513 : (.selects "TileForge$ByteRow" ⟨"TileForge$ByteRow", "has", "(I)Z"⟩ ⟨"TileForge$ByteRow", "has", "(I)Z"⟩ : Cond) ∈ GW := List.mem_filter.mpr ⟨(List.mem_append_right _ (List.mem_append_right _ (List.mem_append_right _ (List.mem_append_left _ (List.mem_of_getElem? (i := 134) rfl))))), rfl⟩
theorem mw_514 : (.fieldLink "TileForge" 140 "TileForge$ByteRow" "bytes" "[I" : Cond) ∈ GW := List.mem_filter.mpr ⟨(List.mem_append_right _ (List.mem_append_left _ (List.mem_of_getElem? (i := 75) rfl))), rfl⟩
def q_tf_stream (cI : ClassId) (f0 : Nat) (a1 : Nat) (c1 : Nat) (r1 : Nat) (y1 : Nat) (k1 : Nat) (j1 : Nat) (ibc : Int32) (ilc : Int32) (igl : Int32) (ibk : Int32) (ifa : Int32) (ibd : Int32) (y2 : Nat) (yt : Nat → Int32) (yl : Nat) (yp : Nat) (k : Nat) : Int32 → va_W → Prop := fun rr ww => rr = (yt k) ∧ ww = [(f0, .inr (8, [.ref a1, .ref c1, .ref r1, .ref y1, .ref k1, .ref j1, .int ibc, .int ilc, .int igl, .int ibk, .int ifa, .int ibd])), (y1, .inr (2, [.ref y2, .int (nI yl), .int (nI yp)])), (y2, .inl (cI, 400, .inl yt))]
set_option maxHeartbeats 4000000 in
set_option maxRecDepth 100000 in
theorem c_tf_stream (l : Launch) {D : va_G} {tys : List (ClassId × FieldType)} {cI : ClassId} (hcI : tys[0]? = some (cI, .int)) (f0 : Nat) (a1 : Nat) (c1 : Nat) (r1 : Nat) (y1 : Nat) (k1 : Nat) (j1 : Nat) (ibc : Int32) (ilc : Int32) (igl : Int32) (ibk : Int32) (ifa : Int32) (ibd : Int32) (y2 : Nat) (yt : Nat → Int32) (yl : Nat) (yp : Nat) (k : Nat) (hns : yl ≤ 400) (hk : k < yl) : CsI l D vwCl tys y_TileForge_stream ws_TileForge_stream ({ frames := 1, cells := 0, slots := 0, locals := 21 } : Room) [.ref f0, .int (nI k)] [(f0, .inr (8, [.ref a1, .ref c1, .ref r1, .ref y1, .ref k1, .ref j1, .int ibc, .int ilc, .int igl, .int ibk, .int ifa, .int ibd])), (y1, .inr (2, [.ref y2, .int (nI yl), .int (nI yp)])), (y2, .inl (cI, 400, .inl yt))] (q_tf_stream cI f0 a1 c1 r1 y1 k1 j1 ibc ilc igl ibk ifa ibd y2 yt yl yp k) 0 0 := by
  intro sz
  refine Met.ofW (cc := prog_1_method_7_code) (maxL := 2) (ret := (some .int)) (by decide) rfl ?_
  intro p e s m args below meth c s₁ B hml hv
  obtain ⟨rfl, hsz, hP, hK, hD0, hN⟩ := hv
  have hx := B.exec
  have hb := B.bytes
  have hr := B.returns
  have hts := atoms_spec (ws := ws_TileForge_stream) B.pre
  have hown : s.vm.findClass "TileForge" = some m.cls := findClass_of_methodNamed B.named
  have hlocks := B.notSynchronized
  subst hsz
  have hD := hD0.self (sz := s.heap.size)
  generalize hAe : va_A [(f0, .inr (8, [.ref a1, .ref c1, .ref r1, .ref y1, .ref k1, .ref j1, .int ibc, .int ilc, .int igl, .int ibk, .int ifa, .int ibd])), (y1, .inr (2, [.ref y2, .int (nI yl), .int (nI yp)])), (y2, .inl (cI, 400, .inl yt))] s.heap.size = A at hD ⊢
  have hA : ∀ q : Nat, s.heap.size ≤ q → A q := fun q h => by rw [← hAe]; exact Or.inr h
  have hS : va_S A s.heap s.heap [] := va_S.rf
  have hP : va_P D vwCl [(f0, .inr (8, [.ref a1, .ref c1, .ref r1, .ref y1, .ref k1, .ref j1, .int ibc, .int ilc, .int igl, .int ibk, .int ifa, .int ibd])), (y1, .inr (2, [.ref y2, .int (nI yl), .int (nI yp)])), (y2, .inl (cI, 400, .inl yt))] s.heap := hP
  have hl := lv_entry ([.ref f0, .int (nI k)]) (n := 2) (Nat.le_of_ble_eq_true rfl)
  rw [lg_entry_eq]
  generalize (lg_sl ([.ref f0, .int (nI k)]) ++ List.replicate (2 - (lg_sl ([.ref f0, .int (nI k)])).length) Slot.unset).toArray = ls at hl ⊢
  have hl : lv_has ls 2 [(0, .ref f0), (1, .int (nI k))] := hl
  refine lv_iload_n hx hb d_TileForge_stream_0 rfl (lv_at hl 1 rfl) ?_
  refine lv_iconst (v := (-1)) hx hb d_TileForge_stream_1 (by decide) ?_
  refine lv_icmp_ne (tgt := 13) hx hb d_TileForge_stream_2 (by decide) (fun c_2 => ?_) (fun c_2 => ?_)
  · refine lv_aload_n hx hb d_TileForge_stream_13 rfl (lv_at hl 0 rfl) ?_
    refine va_get (D := D) (ci := 8) (v := .ref y1) (C := "TileForge") (T := T_TileForge) (N := 12) hx hb hts (cs_in in_TileForge) hown hK hP 0 rfl rfl 3 (by decide) (hts _ (cs_m mw_486)) (fun _ h9 => h9) rfl d_TileForge_stream_14 ?_
    refine lv_iload_n hx hb d_TileForge_stream_17 rfl (lv_at hl 1 rfl) ?_
    refine cs_Vi (As := [.int (nI k)]) (rest := []) (wr := [(f0, .inr (8, [.ref a1, .ref c1, .ref r1, .ref y1, .ref k1, .ref j1, .int ibc, .int ilc, .int igl, .int ibk, .int ifa, .int ibd]))]) ⟨hx, hb, hml, hown, hts⟩ (c_br_has l hcI y1 y2 yt yl yp (nI k)) (cwV 1 hts (cs_gV mw_511 mw_512 mw_513 mw_133 mw_127) rfl rfl rfl ⟨rfl, hd_ByteRow_has⟩ ⟨Nat.le_of_ble_eq_true rfl, Nat.le_of_ble_eq_true rfl⟩) hN hK hP hD hS hA [1, 2] [0] rfl rfl rfl rfl (by decide) (ci := 2) rfl rfl rfl rfl rfl hl.1 (Nat.le_of_ble_eq_true rfl) d_TileForge_stream_18 ⟨Nat.le_of_ble_eq_true rfl, Nat.le_of_ble_eq_true rfl⟩ (fun r1 w1 H locs hw hP hD hS => ?_)
    obtain ⟨rfl, rfl⟩ := hw
    have hP : va_P D vwCl [(f0, .inr (8, [.ref a1, .ref c1, .ref r1, .ref y1, .ref k1, .ref j1, .int ibc, .int ilc, .int igl, .int ibk, .int ifa, .int ibd])), (y1, .inr (2, [.ref y2, .int (nI yl), .int (nI yp)])), (y2, .inl (cI, 400, .inl yt))] H := hP
    have hD : va_D A [(f0, .inr (8, [.ref a1, .ref c1, .ref r1, .ref y1, .ref k1, .ref j1, .int ibc, .int ilc, .int igl, .int ibk, .int ifa, .int ibd])), (y1, .inr (2, [.ref y2, .int (nI yl), .int (nI yp)])), (y2, .inl (cI, 400, .inl yt))] := hD
    refine lv_if_ne (tgt := 32) hx hb d_TileForge_stream_21 (by decide) (fun c_21 => ?_) (fun c_21 => ?_)
    · have c_21 := cs_b1 c_21
      refine lv_aload_n hx hb d_TileForge_stream_32 rfl (lv_at hl 0 rfl) ?_
      refine va_get (D := D) (ci := 8) (v := .ref y1) (C := "TileForge") (T := T_TileForge) (N := 12) hx hb hts (cs_in in_TileForge) hown hK hP 0 rfl rfl 3 (by decide) (hts _ (cs_m mw_486)) (fun _ h9 => h9) rfl d_TileForge_stream_33 ?_
      refine va_get (D := D) (ci := 2) (v := .ref y2) (C := "TileForge$ByteRow") (T := T_ByteRow) (N := 3) hx hb hts (cs_in in_ByteRow) hown hK hP 1 rfl rfl 0 (by decide) (hts _ (cs_m mw_514)) (fun _ h9 => h9) rfl d_TileForge_stream_36 ?_
      refine lv_iload_n hx hb d_TileForge_stream_39 rfl (lv_at hl 1 rfl) ?_
      refine cs_iald (j := k) hx hb hK hcI hP 2 rfl (rfl) (by omega) (by decide) d_TileForge_stream_40 ?_
      exact W.iret (v := (yt k)) hx hb hr (fun t ht hW => ⟨⟨(yt k), [(f0, .inr (8, [.ref a1, .ref c1, .ref r1, .ref y1, .ref k1, .ref j1, .int ibc, .int ilc, .int igl, .int ibk, .int ifa, .int ibd])), (y1, .inr (2, [.ref y2, .int (nI yl), .int (nI yp)])), (y2, .inl (cI, 400, .inl yt))], rfl, ⟨(rfl), (rfl)⟩, by rw [ht]; exact hP, va_K.moved hW.alike hK, hD⟩, hS.F ht⟩) hS.2.2 d_TileForge_stream_41
    · have c_21 := cs_b0 c_21
      exact absurd (⟨nI_pos (by omega), nI_ge hk (by omega), nI_ge (b := 400) (by omega) (by decide)⟩ : ¬ nI k < 0 ∧ ¬ nI yl ≤ nI k ∧ ¬ 400 ≤ nI k) c_21
  · exact absurd c_2 (cs_nm1 (by omega))
def y_TileForge_damage : MethodName := ⟨"TileForge", "damage", "(II)I"⟩
def ws_TileForge_damage : List Cond := .code y_TileForge_damage prog_1_method_8_code 4 (some .int) :: GW
theorem mw_515 : (.code ⟨"TileForge", "damage", "(II)I"⟩ prog_1_method_8_code 4 (some .int) : Cond) ∈ GW := List.mem_filter.mpr ⟨(List.mem_append_right _ (List.mem_append_right _ (List.mem_append_right _ (List.mem_append_left _ (List.mem_of_getElem? (i := 142) rfl))))), rfl⟩
theorem hd_TileForge_damage : y_TileForge_damage.cls ≠ "java/lang/invoke/MethodHandle" ∧ y_TileForge_damage.cls ≠ "java/lang/invoke/VarHandle" ∧ (parseMethodDescriptor y_TileForge_damage.desc).map (fun d => d.parameters.length) = some 2 := by decide +kernel
theorem d_TileForge_damage_0 : decode prog_1_method_8_code 0 = .ok (.iload_n 2, 1) := by decide +kernel
theorem d_TileForge_damage_1 : decode prog_1_method_8_code 1 = .ok (.ifCond .lt 10, 3) := by decide +kernel
theorem d_TileForge_damage_4 : decode prog_1_method_8_code 4 = .ok (.iload_n 2, 1) := by decide +kernel
theorem d_TileForge_damage_5 : decode prog_1_method_8_code 5 = .ok (.sipush 255, 3) := by decide +kernel
theorem d_TileForge_damage_8 : decode prog_1_method_8_code 8 = .ok (.if_icmp .le 11, 3) := by decide +kernel
theorem d_TileForge_damage_11 : decode prog_1_method_8_code 11 = .ok (.new 51, 3) := by decide +kernel
theorem d_TileForge_damage_14 : decode prog_1_method_8_code 14 = .ok (.dup, 1) := by decide +kernel
theorem d_TileForge_damage_15 : decode prog_1_method_8_code 15 = .ok (.invokespecial 53, 3) := by decide +kernel
theorem d_TileForge_damage_18 : decode prog_1_method_8_code 18 = .ok (.athrow, 1) := by decide +kernel
theorem d_TileForge_damage_19 : decode prog_1_method_8_code 19 = .ok (.iload_n 1, 1) := by decide +kernel
theorem d_TileForge_damage_20 : decode prog_1_method_8_code 20 = .ok (.ifCond .lt 21, 3) := by decide +kernel
theorem d_TileForge_damage_23 : decode prog_1_method_8_code 23 = .ok (.iload_n 1, 1) := by decide +kernel
theorem d_TileForge_damage_24 : decode prog_1_method_8_code 24 = .ok (.aload_n 0, 1) := by decide +kernel
theorem d_TileForge_damage_25 : decode prog_1_method_8_code 25 = .ok (.getfield 29, 3) := by decide +kernel
theorem d_TileForge_damage_28 : decode prog_1_method_8_code 28 = .ok (.getfield 109, 3) := by decide +kernel
theorem d_TileForge_damage_31 : decode prog_1_method_8_code 31 = .ok (.if_icmp .gt 10, 3) := by decide +kernel
theorem d_TileForge_damage_34 : decode prog_1_method_8_code 34 = .ok (.iload_n 1, 1) := by decide +kernel
theorem d_TileForge_damage_35 : decode prog_1_method_8_code 35 = .ok (.sipush 400, 3) := by decide +kernel
theorem d_TileForge_damage_38 : decode prog_1_method_8_code 38 = .ok (.if_icmp .lt 11, 3) := by decide +kernel
theorem d_TileForge_damage_41 : decode prog_1_method_8_code 41 = .ok (.new 61, 3) := by decide +kernel
theorem d_TileForge_damage_44 : decode prog_1_method_8_code 44 = .ok (.dup, 1) := by decide +kernel
theorem d_TileForge_damage_45 : decode prog_1_method_8_code 45 = .ok (.invokespecial 63, 3) := by decide +kernel
theorem d_TileForge_damage_48 : decode prog_1_method_8_code 48 = .ok (.athrow, 1) := by decide +kernel
theorem d_TileForge_damage_49 : decode prog_1_method_8_code 49 = .ok (.iconst (-1), 1) := by decide +kernel
theorem d_TileForge_damage_50 : decode prog_1_method_8_code 50 = .ok (.istore_n 3, 1) := by decide +kernel
theorem d_TileForge_damage_51 : decode prog_1_method_8_code 51 = .ok (.iload_n 1, 1) := by decide +kernel
theorem d_TileForge_damage_52 : decode prog_1_method_8_code 52 = .ok (.aload_n 0, 1) := by decide +kernel
theorem d_TileForge_damage_53 : decode prog_1_method_8_code 53 = .ok (.getfield 29, 3) := by decide +kernel
theorem d_TileForge_damage_56 : decode prog_1_method_8_code 56 = .ok (.getfield 109, 3) := by decide +kernel
theorem d_TileForge_damage_59 : decode prog_1_method_8_code 59 = .ok (.if_icmp .ge 16, 3) := by decide +kernel
theorem d_TileForge_damage_62 : decode prog_1_method_8_code 62 = .ok (.aload_n 0, 1) := by decide +kernel
theorem d_TileForge_damage_63 : decode prog_1_method_8_code 63 = .ok (.getfield 29, 3) := by decide +kernel
theorem d_TileForge_damage_66 : decode prog_1_method_8_code 66 = .ok (.getfield 140, 3) := by decide +kernel
theorem d_TileForge_damage_69 : decode prog_1_method_8_code 69 = .ok (.iload_n 1, 1) := by decide +kernel
theorem d_TileForge_damage_70 : decode prog_1_method_8_code 70 = .ok (.iaload, 1) := by decide +kernel
theorem d_TileForge_damage_71 : decode prog_1_method_8_code 71 = .ok (.istore_n 3, 1) := by decide +kernel
theorem d_TileForge_damage_72 : decode prog_1_method_8_code 72 = .ok (.goto 13, 3) := by decide +kernel
theorem d_TileForge_damage_75 : decode prog_1_method_8_code 75 = .ok (.aload_n 0, 1) := by decide +kernel
theorem d_TileForge_damage_76 : decode prog_1_method_8_code 76 = .ok (.getfield 29, 3) := by decide +kernel
theorem d_TileForge_damage_79 : decode prog_1_method_8_code 79 = .ok (.iload_n 1, 1) := by decide +kernel
theorem d_TileForge_damage_80 : decode prog_1_method_8_code 80 = .ok (.iconst 1, 1) := by decide +kernel
theorem d_TileForge_damage_81 : decode prog_1_method_8_code 81 = .ok (.iadd, 1) := by decide +kernel
theorem d_TileForge_damage_82 : decode prog_1_method_8_code 82 = .ok (.putfield 109, 3) := by decide +kernel
theorem d_TileForge_damage_85 : decode prog_1_method_8_code 85 = .ok (.aload_n 0, 1) := by decide +kernel
theorem d_TileForge_damage_86 : decode prog_1_method_8_code 86 = .ok (.getfield 29, 3) := by decide +kernel
theorem d_TileForge_damage_89 : decode prog_1_method_8_code 89 = .ok (.getfield 140, 3) := by decide +kernel
theorem d_TileForge_damage_92 : decode prog_1_method_8_code 92 = .ok (.iload_n 1, 1) := by decide +kernel
theorem d_TileForge_damage_93 : decode prog_1_method_8_code 93 = .ok (.iload_n 2, 1) := by decide +kernel
theorem d_TileForge_damage_94 : decode prog_1_method_8_code 94 = .ok (.iastore, 1) := by decide +kernel
theorem d_TileForge_damage_95 : decode prog_1_method_8_code 95 = .ok (.iload_n 3, 1) := by decide +kernel
theorem d_TileForge_damage_96 : decode prog_1_method_8_code 96 = .ok (.ireturn, 1) := by decide +kernel
def q_tf_damage (cI : ClassId) (f0 : Nat) (a1 : Nat) (c1 : Nat) (r1 : Nat) (y1 : Nat) (k1 : Nat) (j1 : Nat) (ibc : Int32) (ilc : Int32) (igl : Int32) (ibk : Int32) (ifa : Int32) (ibd : Int32) (y2 : Nat) (yt : Nat → Int32) (yl : Nat) (yp : Nat) (k : Nat) (b : Int32) : Int32 → va_W → Prop := fun rr ww => rr = (yt k) ∧ ww = [(f0, .inr (8, [.ref a1, .ref c1, .ref r1, .ref y1, .ref k1, .ref j1, .int ibc, .int ilc, .int igl, .int ibk, .int ifa, .int ibd])), (y1, .inr (2, [.ref y2, .int (nI yl), .int (nI yp)])), (y2, .inl (cI, 400, .inl (upd yt k b)))]
set_option maxHeartbeats 4000000 in
set_option maxRecDepth 100000 in
theorem c_tf_damage (l : Launch) {D : va_G} {tys : List (ClassId × FieldType)} {cI : ClassId} (hcI : tys[0]? = some (cI, .int)) (f0 : Nat) (a1 : Nat) (c1 : Nat) (r1 : Nat) (y1 : Nat) (k1 : Nat) (j1 : Nat) (ibc : Int32) (ilc : Int32) (igl : Int32) (ibk : Int32) (ifa : Int32) (ibd : Int32) (y2 : Nat) (yt : Nat → Int32) (yl : Nat) (yp : Nat) (k : Nat) (b : Int32) (hns : yl ≤ 400) (hbb : ¬ b < 0 ∧ ¬ 255 < b) (hk : k < yl) : CsI l D vwCl tys y_TileForge_damage ws_TileForge_damage ({ frames := 0, cells := 0, slots := 0, locals := 0 } : Room) [.ref f0, .int (nI k), .int b] [(f0, .inr (8, [.ref a1, .ref c1, .ref r1, .ref y1, .ref k1, .ref j1, .int ibc, .int ilc, .int igl, .int ibk, .int ifa, .int ibd])), (y1, .inr (2, [.ref y2, .int (nI yl), .int (nI yp)])), (y2, .inl (cI, 400, .inl yt))] (q_tf_damage cI f0 a1 c1 r1 y1 k1 j1 ibc ilc igl ibk ifa ibd y2 yt yl yp k b) 0 0 := by
  intro sz
  refine Met.ofW (cc := prog_1_method_8_code) (maxL := 4) (ret := (some .int)) (by decide) rfl ?_
  intro p e s m args below meth c s₁ B hml hv
  obtain ⟨rfl, hsz, hP, hK, hD0, hN⟩ := hv
  have hx := B.exec
  have hb := B.bytes
  have hr := B.returns
  have hts := atoms_spec (ws := ws_TileForge_damage) B.pre
  have hown : s.vm.findClass "TileForge" = some m.cls := findClass_of_methodNamed B.named
  have hlocks := B.notSynchronized
  subst hsz
  have hD := hD0.self (sz := s.heap.size)
  generalize hAe : va_A [(f0, .inr (8, [.ref a1, .ref c1, .ref r1, .ref y1, .ref k1, .ref j1, .int ibc, .int ilc, .int igl, .int ibk, .int ifa, .int ibd])), (y1, .inr (2, [.ref y2, .int (nI yl), .int (nI yp)])), (y2, .inl (cI, 400, .inl yt))] s.heap.size = A at hD ⊢
  have hA : ∀ q : Nat, s.heap.size ≤ q → A q := fun q h => by rw [← hAe]; exact Or.inr h
  have hS : va_S A s.heap s.heap [] := va_S.rf
  have hP : va_P D vwCl [(f0, .inr (8, [.ref a1, .ref c1, .ref r1, .ref y1, .ref k1, .ref j1, .int ibc, .int ilc, .int igl, .int ibk, .int ifa, .int ibd])), (y1, .inr (2, [.ref y2, .int (nI yl), .int (nI yp)])), (y2, .inl (cI, 400, .inl yt))] s.heap := hP
  have hl := lv_entry ([.ref f0, .int (nI k), .int b]) (n := 4) (Nat.le_of_ble_eq_true rfl)
  rw [lg_entry_eq]
  generalize (lg_sl ([.ref f0, .int (nI k), .int b]) ++ List.replicate (4 - (lg_sl ([.ref f0, .int (nI k), .int b])).length) Slot.unset).toArray = ls at hl ⊢
  have hl : lv_has ls 4 [(0, .ref f0), (1, .int (nI k)), (2, .int b)] := hl
  refine lv_iload_n hx hb d_TileForge_damage_0 rfl (lv_at hl 2 rfl) ?_
  refine lv_if_lt (tgt := 11) hx hb d_TileForge_damage_1 (by decide) (fun c_1 => ?_) (fun c_1 => ?_)
  · exact absurd c_1 hbb.1
  · refine lv_iload_n hx hb d_TileForge_damage_4 rfl (lv_at hl 2 rfl) ?_
    refine lv_sipush (v := 255) hx hb d_TileForge_damage_5 (by decide) ?_
    refine lv_icmp_le (tgt := 19) hx hb d_TileForge_damage_8 (by decide) (fun c_8 => ?_) (fun c_8 => ?_)
    · refine lv_iload_n hx hb d_TileForge_damage_19 rfl (lv_at hl 1 rfl) ?_
      refine lv_if_lt (tgt := 41) hx hb d_TileForge_damage_20 (by decide) (fun c_20 => ?_) (fun c_20 => ?_)
      · exact absurd c_20 (nI_pos (by omega))
      · refine lv_iload_n hx hb d_TileForge_damage_23 rfl (lv_at hl 1 rfl) ?_
        refine lv_aload_n hx hb d_TileForge_damage_24 rfl (lv_at hl 0 rfl) ?_
        refine va_get (D := D) (ci := 8) (v := .ref y1) (C := "TileForge") (T := T_TileForge) (N := 12) hx hb hts (cs_in in_TileForge) hown hK hP 0 rfl rfl 3 (by decide) (hts _ (cs_m mw_486)) (fun _ h9 => h9) rfl d_TileForge_damage_25 ?_
        refine va_get (D := D) (ci := 2) (v := .int (nI yl)) (C := "TileForge$ByteRow") (T := T_ByteRow) (N := 3) hx hb hts (cs_in in_ByteRow) hown hK hP 1 rfl rfl 1 (by decide) (hts _ (cs_m mw_510)) (fun _ h9 => h9) rfl d_TileForge_damage_28 ?_
        refine lv_icmp_gt (tgt := 41) hx hb d_TileForge_damage_31 (by decide) (fun c_31 => ?_) (fun c_31 => ?_)
        · exact absurd ((nI_ltI (a := yl) (b := k) (by omega) (by omega)).mp c_31) (by omega)
        · refine lv_iload_n hx hb d_TileForge_damage_34 rfl (lv_at hl 1 rfl) ?_
          refine lv_sipush (v := 400) hx hb d_TileForge_damage_35 (by decide) ?_
          refine lv_icmp_lt (tgt := 49) hx hb d_TileForge_damage_38 (by decide) (fun c_38 => ?_) (fun c_38 => ?_)
          · refine lv_iconst (v := (-1)) hx hb d_TileForge_damage_49 (by decide) ?_
            refine lv_istore_n (lv' := [(3, .int (-1)), (0, .ref f0), (1, .int (nI k)), (2, .int b)]) hx hb d_TileForge_damage_50 rfl hl (by decide) rfl (fun ls hl => ?_)
            refine lv_iload_n hx hb d_TileForge_damage_51 rfl (lv_at hl 2 rfl) ?_
            refine lv_aload_n hx hb d_TileForge_damage_52 rfl (lv_at hl 1 rfl) ?_
            refine va_get (D := D) (ci := 8) (v := .ref y1) (C := "TileForge") (T := T_TileForge) (N := 12) hx hb hts (cs_in in_TileForge) hown hK hP 0 rfl rfl 3 (by decide) (hts _ (cs_m mw_486)) (fun _ h9 => h9) rfl d_TileForge_damage_53 ?_
            refine va_get (D := D) (ci := 2) (v := .int (nI yl)) (C := "TileForge$ByteRow") (T := T_ByteRow) (N := 3) hx hb hts (cs_in in_ByteRow) hown hK hP 1 rfl rfl 1 (by decide) (hts _ (cs_m mw_510)) (fun _ h9 => h9) rfl d_TileForge_damage_56 ?_
            refine lv_icmp_ge (tgt := 75) hx hb d_TileForge_damage_59 (by decide) (fun c_59 => ?_) (fun c_59 => ?_)
            · exact absurd ((nI_leI (a := yl) (b := k) (by omega) (by omega)).mp c_59) (by omega)
            · refine lv_aload_n hx hb d_TileForge_damage_62 rfl (lv_at hl 1 rfl) ?_
              refine va_get (D := D) (ci := 8) (v := .ref y1) (C := "TileForge") (T := T_TileForge) (N := 12) hx hb hts (cs_in in_TileForge) hown hK hP 0 rfl rfl 3 (by decide) (hts _ (cs_m mw_486)) (fun _ h9 => h9) rfl d_TileForge_damage_63 ?_
              refine va_get (D := D) (ci := 2) (v := .ref y2) (C := "TileForge$ByteRow") (T := T_ByteRow) (N := 3) hx hb hts (cs_in in_ByteRow) hown hK hP 1 rfl rfl 0 (by decide) (hts _ (cs_m mw_514)) (fun _ h9 => h9) rfl d_TileForge_damage_66 ?_
              refine lv_iload_n hx hb d_TileForge_damage_69 rfl (lv_at hl 2 rfl) ?_
              refine cs_iald (j := k) hx hb hK hcI hP 2 rfl (rfl) (by omega) (by decide) d_TileForge_damage_70 ?_
              refine lv_istore_n (lv' := [(3, .int (yt k)), (0, .ref f0), (1, .int (nI k)), (2, .int b)]) hx hb d_TileForge_damage_71 rfl hl (by decide) rfl (fun ls hl => ?_)
              refine lv_goto (tgt := 85) hx hb d_TileForge_damage_72 (by decide) ?_
              refine lv_aload_n hx hb d_TileForge_damage_85 rfl (lv_at hl 1 rfl) ?_
              refine va_get (D := D) (ci := 8) (v := .ref y1) (C := "TileForge") (T := T_TileForge) (N := 12) hx hb hts (cs_in in_TileForge) hown hK hP 0 rfl rfl 3 (by decide) (hts _ (cs_m mw_486)) (fun _ h9 => h9) rfl d_TileForge_damage_86 ?_
              refine va_get (D := D) (ci := 2) (v := .ref y2) (C := "TileForge$ByteRow") (T := T_ByteRow) (N := 3) hx hb hts (cs_in in_ByteRow) hown hK hP 1 rfl rfl 0 (by decide) (hts _ (cs_m mw_514)) (fun _ h9 => h9) rfl d_TileForge_damage_89 ?_
              refine lv_iload_n hx hb d_TileForge_damage_92 rfl (lv_at hl 2 rfl) ?_
              refine lv_iload_n hx hb d_TileForge_damage_93 rfl (lv_at hl 3 rfl) ?_
              refine cs_iast (j := k) hx hb hK hcI hP hD hS 2 rfl (rfl) (by omega) (by decide) d_TileForge_damage_94 (fun H locs hP hD hS => ?_)
              have hP : va_P D vwCl [(f0, .inr (8, [.ref a1, .ref c1, .ref r1, .ref y1, .ref k1, .ref j1, .int ibc, .int ilc, .int igl, .int ibk, .int ifa, .int ibd])), (y1, .inr (2, [.ref y2, .int (nI yl), .int (nI yp)])), (y2, .inl (cI, 400, .inl (upd yt k b)))] H := hP
              have hD : va_D A [(f0, .inr (8, [.ref a1, .ref c1, .ref r1, .ref y1, .ref k1, .ref j1, .int ibc, .int ilc, .int igl, .int ibk, .int ifa, .int ibd])), (y1, .inr (2, [.ref y2, .int (nI yl), .int (nI yp)])), (y2, .inl (cI, 400, .inl (upd yt k b)))] := hD
              refine lv_iload_n hx hb d_TileForge_damage_95 rfl (lv_at hl 0 rfl) ?_
              exact W.iret (v := (yt k)) hx hb hr (fun t ht hW => ⟨⟨(yt k), [(f0, .inr (8, [.ref a1, .ref c1, .ref r1, .ref y1, .ref k1, .ref j1, .int ibc, .int ilc, .int igl, .int ibk, .int ifa, .int ibd])), (y1, .inr (2, [.ref y2, .int (nI yl), .int (nI yp)])), (y2, .inl (cI, 400, .inl (upd yt k b)))], rfl, ⟨(rfl), (rfl)⟩, by rw [ht]; exact hP, va_K.moved hW.alike hK, hD⟩, hS.F ht⟩) hS.2.2 d_TileForge_damage_96
          · exact absurd (nI_lt (a := k) (b := 400) (by omega) (by decide)) c_38
    · exact absurd (Int32.not_lt.mp hbb.2) c_8
def q_tf_damageE (cI : ClassId) (f0 : Nat) (a1 : Nat) (c1 : Nat) (r1 : Nat) (y1 : Nat) (k1 : Nat) (j1 : Nat) (ibc : Int32) (ilc : Int32) (igl : Int32) (ibk : Int32) (ifa : Int32) (ibd : Int32) (y2 : Nat) (yt : Nat → Int32) (yl : Nat) (yp : Nat) (b : Int32) : Int32 → va_W → Prop := fun rr ww => rr = ((-1)) ∧ ww = [(f0, .inr (8, [.ref a1, .ref c1, .ref r1, .ref y1, .ref k1, .ref j1, .int ibc, .int ilc, .int igl, .int ibk, .int ifa, .int ibd])), (y1, .inr (2, [.ref y2, .int (nI (yl + 1)), .int (nI yp)])), (y2, .inl (cI, 400, .inl (upd yt yl b)))]
set_option maxHeartbeats 4000000 in
set_option maxRecDepth 100000 in
theorem c_tf_damageE (l : Launch) {D : va_G} {tys : List (ClassId × FieldType)} {cI : ClassId} (hcI : tys[0]? = some (cI, .int)) (f0 : Nat) (a1 : Nat) (c1 : Nat) (r1 : Nat) (y1 : Nat) (k1 : Nat) (j1 : Nat) (ibc : Int32) (ilc : Int32) (igl : Int32) (ibk : Int32) (ifa : Int32) (ibd : Int32) (y2 : Nat) (yt : Nat → Int32) (yl : Nat) (yp : Nat) (b : Int32) (hns : yl < 400) (hbb : ¬ b < 0 ∧ ¬ 255 < b) : CsI l D vwCl tys y_TileForge_damage ws_TileForge_damage ({ frames := 0, cells := 0, slots := 0, locals := 0 } : Room) [.ref f0, .int (nI yl), .int b] [(f0, .inr (8, [.ref a1, .ref c1, .ref r1, .ref y1, .ref k1, .ref j1, .int ibc, .int ilc, .int igl, .int ibk, .int ifa, .int ibd])), (y1, .inr (2, [.ref y2, .int (nI yl), .int (nI yp)])), (y2, .inl (cI, 400, .inl yt))] (q_tf_damageE cI f0 a1 c1 r1 y1 k1 j1 ibc ilc igl ibk ifa ibd y2 yt yl yp b) 0 0 := by
  intro sz
  refine Met.ofW (cc := prog_1_method_8_code) (maxL := 4) (ret := (some .int)) (by decide) rfl ?_
  intro p e s m args below meth c s₁ B hml hv
  obtain ⟨rfl, hsz, hP, hK, hD0, hN⟩ := hv
  have hx := B.exec
  have hb := B.bytes
  have hr := B.returns
  have hts := atoms_spec (ws := ws_TileForge_damage) B.pre
  have hown : s.vm.findClass "TileForge" = some m.cls := findClass_of_methodNamed B.named
  have hlocks := B.notSynchronized
  subst hsz
  have hD := hD0.self (sz := s.heap.size)
  generalize hAe : va_A [(f0, .inr (8, [.ref a1, .ref c1, .ref r1, .ref y1, .ref k1, .ref j1, .int ibc, .int ilc, .int igl, .int ibk, .int ifa, .int ibd])), (y1, .inr (2, [.ref y2, .int (nI yl), .int (nI yp)])), (y2, .inl (cI, 400, .inl yt))] s.heap.size = A at hD ⊢
  have hA : ∀ q : Nat, s.heap.size ≤ q → A q := fun q h => by rw [← hAe]; exact Or.inr h
  have hS : va_S A s.heap s.heap [] := va_S.rf
  have hP : va_P D vwCl [(f0, .inr (8, [.ref a1, .ref c1, .ref r1, .ref y1, .ref k1, .ref j1, .int ibc, .int ilc, .int igl, .int ibk, .int ifa, .int ibd])), (y1, .inr (2, [.ref y2, .int (nI yl), .int (nI yp)])), (y2, .inl (cI, 400, .inl yt))] s.heap := hP
  have hl := lv_entry ([.ref f0, .int (nI yl), .int b]) (n := 4) (Nat.le_of_ble_eq_true rfl)
  rw [lg_entry_eq]
  generalize (lg_sl ([.ref f0, .int (nI yl), .int b]) ++ List.replicate (4 - (lg_sl ([.ref f0, .int (nI yl), .int b])).length) Slot.unset).toArray = ls at hl ⊢
  have hl : lv_has ls 4 [(0, .ref f0), (1, .int (nI yl)), (2, .int b)] := hl
  refine lv_iload_n hx hb d_TileForge_damage_0 rfl (lv_at hl 2 rfl) ?_
  refine lv_if_lt (tgt := 11) hx hb d_TileForge_damage_1 (by decide) (fun c_1 => ?_) (fun c_1 => ?_)
  · exact absurd c_1 hbb.1
  · refine lv_iload_n hx hb d_TileForge_damage_4 rfl (lv_at hl 2 rfl) ?_
    refine lv_sipush (v := 255) hx hb d_TileForge_damage_5 (by decide) ?_
    refine lv_icmp_le (tgt := 19) hx hb d_TileForge_damage_8 (by decide) (fun c_8 => ?_) (fun c_8 => ?_)
    · refine lv_iload_n hx hb d_TileForge_damage_19 rfl (lv_at hl 1 rfl) ?_
      refine lv_if_lt (tgt := 41) hx hb d_TileForge_damage_20 (by decide) (fun c_20 => ?_) (fun c_20 => ?_)
      · exact absurd c_20 (nI_pos (by omega))
      · refine lv_iload_n hx hb d_TileForge_damage_23 rfl (lv_at hl 1 rfl) ?_
        refine lv_aload_n hx hb d_TileForge_damage_24 rfl (lv_at hl 0 rfl) ?_
        refine va_get (D := D) (ci := 8) (v := .ref y1) (C := "TileForge") (T := T_TileForge) (N := 12) hx hb hts (cs_in in_TileForge) hown hK hP 0 rfl rfl 3 (by decide) (hts _ (cs_m mw_486)) (fun _ h9 => h9) rfl d_TileForge_damage_25 ?_
        refine va_get (D := D) (ci := 2) (v := .int (nI yl)) (C := "TileForge$ByteRow") (T := T_ByteRow) (N := 3) hx hb hts (cs_in in_ByteRow) hown hK hP 1 rfl rfl 1 (by decide) (hts _ (cs_m mw_510)) (fun _ h9 => h9) rfl d_TileForge_damage_28 ?_
        refine lv_icmp_gt (tgt := 41) hx hb d_TileForge_damage_31 (by decide) (fun c_31 => ?_) (fun c_31 => ?_)
        · exact absurd ((nI_ltI (a := yl) (b := yl) (by omega) (by omega)).mp c_31) (by omega)
        · refine lv_iload_n hx hb d_TileForge_damage_34 rfl (lv_at hl 1 rfl) ?_
          refine lv_sipush (v := 400) hx hb d_TileForge_damage_35 (by decide) ?_
          refine lv_icmp_lt (tgt := 49) hx hb d_TileForge_damage_38 (by decide) (fun c_38 => ?_) (fun c_38 => ?_)
          · refine lv_iconst (v := (-1)) hx hb d_TileForge_damage_49 (by decide) ?_
            refine lv_istore_n (lv' := [(3, .int (-1)), (0, .ref f0), (1, .int (nI yl)), (2, .int b)]) hx hb d_TileForge_damage_50 rfl hl (by decide) rfl (fun ls hl => ?_)
            refine lv_iload_n hx hb d_TileForge_damage_51 rfl (lv_at hl 2 rfl) ?_
            refine lv_aload_n hx hb d_TileForge_damage_52 rfl (lv_at hl 1 rfl) ?_
            refine va_get (D := D) (ci := 8) (v := .ref y1) (C := "TileForge") (T := T_TileForge) (N := 12) hx hb hts (cs_in in_TileForge) hown hK hP 0 rfl rfl 3 (by decide) (hts _ (cs_m mw_486)) (fun _ h9 => h9) rfl d_TileForge_damage_53 ?_
            refine va_get (D := D) (ci := 2) (v := .int (nI yl)) (C := "TileForge$ByteRow") (T := T_ByteRow) (N := 3) hx hb hts (cs_in in_ByteRow) hown hK hP 1 rfl rfl 1 (by decide) (hts _ (cs_m mw_510)) (fun _ h9 => h9) rfl d_TileForge_damage_56 ?_
            refine lv_icmp_ge (tgt := 75) hx hb d_TileForge_damage_59 (by decide) (fun c_59 => ?_) (fun c_59 => ?_)
            · refine lv_aload_n hx hb d_TileForge_damage_75 rfl (lv_at hl 1 rfl) ?_
              refine va_get (D := D) (ci := 8) (v := .ref y1) (C := "TileForge") (T := T_TileForge) (N := 12) hx hb hts (cs_in in_TileForge) hown hK hP 0 rfl rfl 3 (by decide) (hts _ (cs_m mw_486)) (fun _ h9 => h9) rfl d_TileForge_damage_76 ?_
              refine lv_iload_n hx hb d_TileForge_damage_79 rfl (lv_at hl 2 rfl) ?_
              refine lv_iconst (v := 1) hx hb d_TileForge_damage_80 (by decide) ?_
              refine lv_iadd hx hb d_TileForge_damage_81 ?_
              refine cs_top (y := nI (yl + 1)) (nI_1 yl) ?_
              refine va_put (D := D) (ci := 2) (v := .int (nI (yl + 1))) (ty := .int) (C := "TileForge$ByteRow") (T := T_ByteRow) (N := 3) hx hb hts (cs_in in_ByteRow) ty_ByteRow tok_ByteRow nm_ByteRow hown hK hP hD hS 1 rfl rfl 1 (by decide) (hts _ (cs_m mw_510)) (fun _ h9 => h9) rfl (by decide +kernel) rfl rfl (Nat.le_of_ble_eq_true rfl) d_TileForge_damage_82 (fun H locs hP hD hS => ?_)
              have hP : va_P D vwCl [(f0, .inr (8, [.ref a1, .ref c1, .ref r1, .ref y1, .ref k1, .ref j1, .int ibc, .int ilc, .int igl, .int ibk, .int ifa, .int ibd])), (y1, .inr (2, [.ref y2, .int (nI (yl + 1)), .int (nI yp)])), (y2, .inl (cI, 400, .inl yt))] H := hP
              have hD : va_D A [(f0, .inr (8, [.ref a1, .ref c1, .ref r1, .ref y1, .ref k1, .ref j1, .int ibc, .int ilc, .int igl, .int ibk, .int ifa, .int ibd])), (y1, .inr (2, [.ref y2, .int (nI (yl + 1)), .int (nI yp)])), (y2, .inl (cI, 400, .inl yt))] := hD
              refine lv_aload_n hx hb d_TileForge_damage_85 rfl (lv_at hl 1 rfl) ?_
              refine va_get (D := D) (ci := 8) (v := .ref y1) (C := "TileForge") (T := T_TileForge) (N := 12) hx hb hts (cs_in in_TileForge) hown hK hP 0 rfl rfl 3 (by decide) (hts _ (cs_m mw_486)) (fun _ h9 => h9) rfl d_TileForge_damage_86 ?_
              refine va_get (D := D) (ci := 2) (v := .ref y2) (C := "TileForge$ByteRow") (T := T_ByteRow) (N := 3) hx hb hts (cs_in in_ByteRow) hown hK hP 1 rfl rfl 0 (by decide) (hts _ (cs_m mw_514)) (fun _ h9 => h9) rfl d_TileForge_damage_89 ?_
              refine lv_iload_n hx hb d_TileForge_damage_92 rfl (lv_at hl 2 rfl) ?_
              refine lv_iload_n hx hb d_TileForge_damage_93 rfl (lv_at hl 3 rfl) ?_
              refine cs_iast (j := yl) hx hb hK hcI hP hD hS 2 rfl (rfl) (by omega) (by decide) d_TileForge_damage_94 (fun H locs hP hD hS => ?_)
              have hP : va_P D vwCl [(f0, .inr (8, [.ref a1, .ref c1, .ref r1, .ref y1, .ref k1, .ref j1, .int ibc, .int ilc, .int igl, .int ibk, .int ifa, .int ibd])), (y1, .inr (2, [.ref y2, .int (nI (yl + 1)), .int (nI yp)])), (y2, .inl (cI, 400, .inl (upd yt yl b)))] H := hP
              have hD : va_D A [(f0, .inr (8, [.ref a1, .ref c1, .ref r1, .ref y1, .ref k1, .ref j1, .int ibc, .int ilc, .int igl, .int ibk, .int ifa, .int ibd])), (y1, .inr (2, [.ref y2, .int (nI (yl + 1)), .int (nI yp)])), (y2, .inl (cI, 400, .inl (upd yt yl b)))] := hD
              refine lv_iload_n hx hb d_TileForge_damage_95 rfl (lv_at hl 0 rfl) ?_
              exact W.iret (v := (-1)) hx hb hr (fun t ht hW => ⟨⟨(-1), [(f0, .inr (8, [.ref a1, .ref c1, .ref r1, .ref y1, .ref k1, .ref j1, .int ibc, .int ilc, .int igl, .int ibk, .int ifa, .int ibd])), (y1, .inr (2, [.ref y2, .int (nI (yl + 1)), .int (nI yp)])), (y2, .inl (cI, 400, .inl (upd yt yl b)))], rfl, ⟨(rfl), (rfl)⟩, by rw [ht]; exact hP, va_K.moved hW.alike hK, hD⟩, hS.F ht⟩) hS.2.2 d_TileForge_damage_96
            · exact absurd (show nI yl ≤ nI yl from Int32.le_refl _) c_59
          · exact absurd (nI_lt (a := yl) (b := 400) (by omega) (by decide)) c_38
    · exact absurd (Int32.not_lt.mp hbb.2) c_8
def y_TileForge_cut : MethodName := ⟨"TileForge", "cut", "(I)I"⟩
def ws_TileForge_cut : List Cond := .code y_TileForge_cut prog_1_method_9_code 3 (some .int) :: GW
theorem mw_516 : (.code ⟨"TileForge", "cut", "(I)I"⟩ prog_1_method_9_code 3 (some .int) : Cond) ∈ GW := List.mem_filter.mpr ⟨(List.mem_append_right _ (List.mem_append_right _ (List.mem_append_right _ (List.mem_append_left _ (List.mem_of_getElem? (i := 149) rfl))))), rfl⟩
theorem hd_TileForge_cut : y_TileForge_cut.cls ≠ "java/lang/invoke/MethodHandle" ∧ y_TileForge_cut.cls ≠ "java/lang/invoke/VarHandle" ∧ (parseMethodDescriptor y_TileForge_cut.desc).map (fun d => d.parameters.length) = some 1 := by decide +kernel
theorem d_TileForge_cut_0 : decode prog_1_method_9_code 0 = .ok (.iload_n 1, 1) := by decide +kernel
theorem d_TileForge_cut_1 : decode prog_1_method_9_code 1 = .ok (.ifCond .lt 14, 3) := by decide +kernel
theorem d_TileForge_cut_4 : decode prog_1_method_9_code 4 = .ok (.iload_n 1, 1) := by decide +kernel
theorem d_TileForge_cut_5 : decode prog_1_method_9_code 5 = .ok (.aload_n 0, 1) := by decide +kernel
theorem d_TileForge_cut_6 : decode prog_1_method_9_code 6 = .ok (.getfield 29, 3) := by decide +kernel
theorem d_TileForge_cut_9 : decode prog_1_method_9_code 9 = .ok (.getfield 109, 3) := by decide +kernel
theorem d_TileForge_cut_12 : decode prog_1_method_9_code 12 = .ok (.if_icmp .le 11, 3) := by decide +kernel
theorem d_TileForge_cut_15 : decode prog_1_method_9_code 15 = .ok (.new 51, 3) := by decide +kernel
theorem d_TileForge_cut_18 : decode prog_1_method_9_code 18 = .ok (.dup, 1) := by decide +kernel
theorem d_TileForge_cut_19 : decode prog_1_method_9_code 19 = .ok (.invokespecial 53, 3) := by decide +kernel
theorem d_TileForge_cut_22 : decode prog_1_method_9_code 22 = .ok (.athrow, 1) := by decide +kernel
theorem d_TileForge_cut_23 : decode prog_1_method_9_code 23 = .ok (.aload_n 0, 1) := by decide +kernel
theorem d_TileForge_cut_24 : decode prog_1_method_9_code 24 = .ok (.getfield 29, 3) := by decide +kernel
theorem d_TileForge_cut_27 : decode prog_1_method_9_code 27 = .ok (.getfield 109, 3) := by decide +kernel
theorem d_TileForge_cut_30 : decode prog_1_method_9_code 30 = .ok (.iload_n 1, 1) := by decide +kernel
theorem d_TileForge_cut_31 : decode prog_1_method_9_code 31 = .ok (.isub, 1) := by decide +kernel
theorem d_TileForge_cut_32 : decode prog_1_method_9_code 32 = .ok (.istore_n 2, 1) := by decide +kernel
theorem d_TileForge_cut_33 : decode prog_1_method_9_code 33 = .ok (.aload_n 0, 1) := by decide +kernel
theorem d_TileForge_cut_34 : decode prog_1_method_9_code 34 = .ok (.getfield 29, 3) := by decide +kernel
theorem d_TileForge_cut_37 : decode prog_1_method_9_code 37 = .ok (.iload_n 1, 1) := by decide +kernel
theorem d_TileForge_cut_38 : decode prog_1_method_9_code 38 = .ok (.putfield 109, 3) := by decide +kernel
theorem d_TileForge_cut_41 : decode prog_1_method_9_code 41 = .ok (.iload_n 2, 1) := by decide +kernel
theorem d_TileForge_cut_42 : decode prog_1_method_9_code 42 = .ok (.ireturn, 1) := by decide +kernel
def q_tf_cut (cI : ClassId) (f0 : Nat) (a1 : Nat) (c1 : Nat) (r1 : Nat) (y1 : Nat) (k1 : Nat) (j1 : Nat) (ibc : Int32) (ilc : Int32) (igl : Int32) (ibk : Int32) (ifa : Int32) (ibd : Int32) (y2 : Nat) (yt : Nat → Int32) (yl : Nat) (yp : Nat) (k : Nat) : Int32 → va_W → Prop := fun rr ww => rr = (nI yl - nI k) ∧ ww = [(f0, .inr (8, [.ref a1, .ref c1, .ref r1, .ref y1, .ref k1, .ref j1, .int ibc, .int ilc, .int igl, .int ibk, .int ifa, .int ibd])), (y1, .inr (2, [.ref y2, .int (nI k), .int (nI yp)])), (y2, .inl (cI, 400, .inl yt))]
set_option maxHeartbeats 4000000 in
set_option maxRecDepth 100000 in
theorem c_tf_cut (l : Launch) {D : va_G} {tys : List (ClassId × FieldType)} {cI : ClassId} (hcI : tys[0]? = some (cI, .int)) (f0 : Nat) (a1 : Nat) (c1 : Nat) (r1 : Nat) (y1 : Nat) (k1 : Nat) (j1 : Nat) (ibc : Int32) (ilc : Int32) (igl : Int32) (ibk : Int32) (ifa : Int32) (ibd : Int32) (y2 : Nat) (yt : Nat → Int32) (yl : Nat) (yp : Nat) (k : Nat) (hns : yl ≤ 400) (hk : k ≤ yl) : CsI l D vwCl tys y_TileForge_cut ws_TileForge_cut ({ frames := 0, cells := 0, slots := 0, locals := 0 } : Room) [.ref f0, .int (nI k)] [(f0, .inr (8, [.ref a1, .ref c1, .ref r1, .ref y1, .ref k1, .ref j1, .int ibc, .int ilc, .int igl, .int ibk, .int ifa, .int ibd])), (y1, .inr (2, [.ref y2, .int (nI yl), .int (nI yp)])), (y2, .inl (cI, 400, .inl yt))] (q_tf_cut cI f0 a1 c1 r1 y1 k1 j1 ibc ilc igl ibk ifa ibd y2 yt yl yp k) 0 0 := by
  intro sz
  refine Met.ofW (cc := prog_1_method_9_code) (maxL := 3) (ret := (some .int)) (by decide) rfl ?_
  intro p e s m args below meth c s₁ B hml hv
  obtain ⟨rfl, hsz, hP, hK, hD0, hN⟩ := hv
  have hx := B.exec
  have hb := B.bytes
  have hr := B.returns
  have hts := atoms_spec (ws := ws_TileForge_cut) B.pre
  have hown : s.vm.findClass "TileForge" = some m.cls := findClass_of_methodNamed B.named
  have hlocks := B.notSynchronized
  subst hsz
  have hD := hD0.self (sz := s.heap.size)
  generalize hAe : va_A [(f0, .inr (8, [.ref a1, .ref c1, .ref r1, .ref y1, .ref k1, .ref j1, .int ibc, .int ilc, .int igl, .int ibk, .int ifa, .int ibd])), (y1, .inr (2, [.ref y2, .int (nI yl), .int (nI yp)])), (y2, .inl (cI, 400, .inl yt))] s.heap.size = A at hD ⊢
  have hA : ∀ q : Nat, s.heap.size ≤ q → A q := fun q h => by rw [← hAe]; exact Or.inr h
  have hS : va_S A s.heap s.heap [] := va_S.rf
  have hP : va_P D vwCl [(f0, .inr (8, [.ref a1, .ref c1, .ref r1, .ref y1, .ref k1, .ref j1, .int ibc, .int ilc, .int igl, .int ibk, .int ifa, .int ibd])), (y1, .inr (2, [.ref y2, .int (nI yl), .int (nI yp)])), (y2, .inl (cI, 400, .inl yt))] s.heap := hP
  have hl := lv_entry ([.ref f0, .int (nI k)]) (n := 3) (Nat.le_of_ble_eq_true rfl)
  rw [lg_entry_eq]
  generalize (lg_sl ([.ref f0, .int (nI k)]) ++ List.replicate (3 - (lg_sl ([.ref f0, .int (nI k)])).length) Slot.unset).toArray = ls at hl ⊢
  have hl : lv_has ls 3 [(0, .ref f0), (1, .int (nI k))] := hl
  refine lv_iload_n hx hb d_TileForge_cut_0 rfl (lv_at hl 1 rfl) ?_
  refine lv_if_lt (tgt := 15) hx hb d_TileForge_cut_1 (by decide) (fun c_1 => ?_) (fun c_1 => ?_)
  · exact absurd c_1 (nI_pos (by omega))
  · refine lv_iload_n hx hb d_TileForge_cut_4 rfl (lv_at hl 1 rfl) ?_
    refine lv_aload_n hx hb d_TileForge_cut_5 rfl (lv_at hl 0 rfl) ?_
    refine va_get (D := D) (ci := 8) (v := .ref y1) (C := "TileForge") (T := T_TileForge) (N := 12) hx hb hts (cs_in in_TileForge) hown hK hP 0 rfl rfl 3 (by decide) (hts _ (cs_m mw_486)) (fun _ h9 => h9) rfl d_TileForge_cut_6 ?_
    refine va_get (D := D) (ci := 2) (v := .int (nI yl)) (C := "TileForge$ByteRow") (T := T_ByteRow) (N := 3) hx hb hts (cs_in in_ByteRow) hown hK hP 1 rfl rfl 1 (by decide) (hts _ (cs_m mw_510)) (fun _ h9 => h9) rfl d_TileForge_cut_9 ?_
    refine lv_icmp_le (tgt := 23) hx hb d_TileForge_cut_12 (by decide) (fun c_12 => ?_) (fun c_12 => ?_)
    · refine lv_aload_n hx hb d_TileForge_cut_23 rfl (lv_at hl 0 rfl) ?_
      refine va_get (D := D) (ci := 8) (v := .ref y1) (C := "TileForge") (T := T_TileForge) (N := 12) hx hb hts (cs_in in_TileForge) hown hK hP 0 rfl rfl 3 (by decide) (hts _ (cs_m mw_486)) (fun _ h9 => h9) rfl d_TileForge_cut_24 ?_
      refine va_get (D := D) (ci := 2) (v := .int (nI yl)) (C := "TileForge$ByteRow") (T := T_ByteRow) (N := 3) hx hb hts (cs_in in_ByteRow) hown hK hP 1 rfl rfl 1 (by decide) (hts _ (cs_m mw_510)) (fun _ h9 => h9) rfl d_TileForge_cut_27 ?_
      refine lv_iload_n hx hb d_TileForge_cut_30 rfl (lv_at hl 1 rfl) ?_
      refine lv_isub hx hb d_TileForge_cut_31 ?_
      refine lv_istore_n (lv' := [(2, .int ((nI yl) - (nI k))), (0, .ref f0), (1, .int (nI k))]) hx hb d_TileForge_cut_32 rfl hl (by decide) rfl (fun ls hl => ?_)
      refine lv_aload_n hx hb d_TileForge_cut_33 rfl (lv_at hl 1 rfl) ?_
      refine va_get (D := D) (ci := 8) (v := .ref y1) (C := "TileForge") (T := T_TileForge) (N := 12) hx hb hts (cs_in in_TileForge) hown hK hP 0 rfl rfl 3 (by decide) (hts _ (cs_m mw_486)) (fun _ h9 => h9) rfl d_TileForge_cut_34 ?_
      refine lv_iload_n hx hb d_TileForge_cut_37 rfl (lv_at hl 2 rfl) ?_
      refine va_put (D := D) (ci := 2) (v := .int (nI k)) (ty := .int) (C := "TileForge$ByteRow") (T := T_ByteRow) (N := 3) hx hb hts (cs_in in_ByteRow) ty_ByteRow tok_ByteRow nm_ByteRow hown hK hP hD hS 1 rfl rfl 1 (by decide) (hts _ (cs_m mw_510)) (fun _ h9 => h9) rfl (by decide +kernel) rfl rfl (Nat.le_of_ble_eq_true rfl) d_TileForge_cut_38 (fun H locs hP hD hS => ?_)
      have hP : va_P D vwCl [(f0, .inr (8, [.ref a1, .ref c1, .ref r1, .ref y1, .ref k1, .ref j1, .int ibc, .int ilc, .int igl, .int ibk, .int ifa, .int ibd])), (y1, .inr (2, [.ref y2, .int (nI k), .int (nI yp)])), (y2, .inl (cI, 400, .inl yt))] H := hP
      have hD : va_D A [(f0, .inr (8, [.ref a1, .ref c1, .ref r1, .ref y1, .ref k1, .ref j1, .int ibc, .int ilc, .int igl, .int ibk, .int ifa, .int ibd])), (y1, .inr (2, [.ref y2, .int (nI k), .int (nI yp)])), (y2, .inl (cI, 400, .inl yt))] := hD
      refine lv_iload_n hx hb d_TileForge_cut_41 rfl (lv_at hl 0 rfl) ?_
      exact W.iret (v := ((nI yl) - (nI k))) hx hb hr (fun t ht hW => ⟨⟨((nI yl) - (nI k)), [(f0, .inr (8, [.ref a1, .ref c1, .ref r1, .ref y1, .ref k1, .ref j1, .int ibc, .int ilc, .int igl, .int ibk, .int ifa, .int ibd])), (y1, .inr (2, [.ref y2, .int (nI k), .int (nI yp)])), (y2, .inl (cI, 400, .inl yt))], rfl, ⟨(rfl), (rfl)⟩, by rw [ht]; exact hP, va_K.moved hW.alike hK, hD⟩, hS.F ht⟩) hS.2.2 d_TileForge_cut_42
    · exact absurd ((nI_leI (a := k) (b := yl) (by omega) (by omega)).mpr hk) c_12
def y_TileForge_get : MethodName := ⟨"TileForge", "get", "(III)I"⟩
def ws_TileForge_get : List Cond := .code y_TileForge_get prog_1_method_10_code 5 (some .int) :: GW
theorem mw_517 : (.code ⟨"TileForge", "get", "(III)I"⟩ prog_1_method_10_code 5 (some .int) : Cond) ∈ GW := List.mem_filter.mpr ⟨(List.mem_append_right _ (List.mem_append_right _ (List.mem_append_right _ (List.mem_append_left _ (List.mem_of_getElem? (i := 156) rfl))))), rfl⟩
theorem hd_TileForge_get : y_TileForge_get.cls ≠ "java/lang/invoke/MethodHandle" ∧ y_TileForge_get.cls ≠ "java/lang/invoke/VarHandle" ∧ (parseMethodDescriptor y_TileForge_get.desc).map (fun d => d.parameters.length) = some 3 := by decide +kernel
theorem d_TileForge_get_0 : decode prog_1_method_10_code 0 = .ok (.iload_n 1, 1) := by decide +kernel
theorem d_TileForge_get_1 : decode prog_1_method_10_code 1 = .ok (.invokestatic 144, 3) := by decide +kernel
theorem d_TileForge_get_4 : decode prog_1_method_10_code 4 = .ok (.ifCond .ne 11, 3) := by decide +kernel
theorem d_TileForge_get_7 : decode prog_1_method_10_code 7 = .ok (.new 51, 3) := by decide +kernel
theorem d_TileForge_get_10 : decode prog_1_method_10_code 10 = .ok (.dup, 1) := by decide +kernel
theorem d_TileForge_get_11 : decode prog_1_method_10_code 11 = .ok (.invokespecial 53, 3) := by decide +kernel
theorem d_TileForge_get_14 : decode prog_1_method_10_code 14 = .ok (.athrow, 1) := by decide +kernel
theorem d_TileForge_get_15 : decode prog_1_method_10_code 15 = .ok (.aload_n 0, 1) := by decide +kernel
theorem d_TileForge_get_16 : decode prog_1_method_10_code 16 = .ok (.iload_n 1, 1) := by decide +kernel
theorem d_TileForge_get_17 : decode prog_1_method_10_code 17 = .ok (.invokevirtual 147, 3) := by decide +kernel
theorem d_TileForge_get_20 : decode prog_1_method_10_code 20 = .ok (.astore 4, 2) := by decide +kernel
theorem d_TileForge_get_22 : decode prog_1_method_10_code 22 = .ok (.aload 4, 2) := by decide +kernel
theorem d_TileForge_get_24 : decode prog_1_method_10_code 24 = .ok (.getfield 151, 3) := by decide +kernel
theorem d_TileForge_get_27 : decode prog_1_method_10_code 27 = .ok (.ifCond .ne 11, 3) := by decide +kernel
theorem d_TileForge_get_30 : decode prog_1_method_10_code 30 = .ok (.new 103, 3) := by decide +kernel
theorem d_TileForge_get_33 : decode prog_1_method_10_code 33 = .ok (.dup, 1) := by decide +kernel
theorem d_TileForge_get_34 : decode prog_1_method_10_code 34 = .ok (.invokespecial 105, 3) := by decide +kernel
theorem d_TileForge_get_37 : decode prog_1_method_10_code 37 = .ok (.athrow, 1) := by decide +kernel
theorem d_TileForge_get_38 : decode prog_1_method_10_code 38 = .ok (.aload 4, 2) := by decide +kernel
theorem d_TileForge_get_40 : decode prog_1_method_10_code 40 = .ok (.iload_n 2, 1) := by decide +kernel
theorem d_TileForge_get_41 : decode prog_1_method_10_code 41 = .ok (.iload_n 3, 1) := by decide +kernel
theorem d_TileForge_get_42 : decode prog_1_method_10_code 42 = .ok (.invokevirtual 57, 3) := by decide +kernel
theorem d_TileForge_get_45 : decode prog_1_method_10_code 45 = .ok (.ifCond .ne 11, 3) := by decide +kernel
theorem d_TileForge_get_48 : decode prog_1_method_10_code 48 = .ok (.new 61, 3) := by decide +kernel
theorem d_TileForge_get_51 : decode prog_1_method_10_code 51 = .ok (.dup, 1) := by decide +kernel
theorem d_TileForge_get_52 : decode prog_1_method_10_code 52 = .ok (.invokespecial 63, 3) := by decide +kernel
theorem d_TileForge_get_55 : decode prog_1_method_10_code 55 = .ok (.athrow, 1) := by decide +kernel
theorem d_TileForge_get_56 : decode prog_1_method_10_code 56 = .ok (.aload 4, 2) := by decide +kernel
theorem d_TileForge_get_58 : decode prog_1_method_10_code 58 = .ok (.iload_n 2, 1) := by decide +kernel
theorem d_TileForge_get_59 : decode prog_1_method_10_code 59 = .ok (.iload_n 3, 1) := by decide +kernel
theorem d_TileForge_get_60 : decode prog_1_method_10_code 60 = .ok (.invokevirtual 64, 3) := by decide +kernel
theorem d_TileForge_get_63 : decode prog_1_method_10_code 63 = .ok (.ireturn, 1) := by decide +kernel
theorem mw_518 : (.methodLink "TileForge" 144 ⟨"TileForge", "isChoice", "(I)Z"⟩ : Cond) ∈ GW := List.mem_filter.mpr ⟨(List.mem_append_right _ (List.mem_append_right _ (List.mem_append_right _ (List.mem_append_left _ (List.mem_of_getElem? (i := 157) rfl))))), rfl⟩
theorem mw_519 : (.static ⟨"TileForge", "isChoice", "(I)Z"⟩ : Cond) ∈ GW := List.mem_filter.mpr ⟨(List.mem_append_right _ (List.mem_append_right _ (List.mem_append_right _ (List.mem_append_left _ (List.mem_of_getElem? (i := 158) rfl))))), rfl⟩
theorem mw_520 : (.methodLink "TileForge" 147 ⟨"TileForge", "choose", "(I)LTileForge$Picture;"⟩ : Cond) ∈ GW := List.mem_filter.mpr ⟨(List.mem_append_right _ (List.mem_append_right _ (List.mem_append_right _ (List.mem_append_left _ (List.mem_of_getElem? (i := 160) rfl))))), rfl⟩
theorem mw_521 : (.instanceMethod ⟨"TileForge", "choose", "(I)LTileForge$Picture;"⟩ : Cond) ∈ GW := List.mem_filter.mpr ⟨(List.mem_append_right _ (List.mem_append_right _ (List.mem_append_right _ (List.mem_append_left _ (List.mem_of_getElem? (i := 162) rfl))))), rfl⟩
theorem mw_522 : (.selects "TileForge" ⟨"TileForge", "choose", "(I)LTileForge$Picture;"⟩ ⟨"TileForge", "choose", "(I)LTileForge$Picture;"⟩ : Cond) ∈ GW := List.mem_filter.mpr ⟨(List.mem_append_left _ (List.mem_of_getElem? (i := 2) rfl)), rfl⟩
theorem mw_523 : (.fieldLink "TileForge" 151 "TileForge$Picture" "made" "Z" : Cond) ∈ GW := List.mem_filter.mpr ⟨(List.mem_append_right _ (List.mem_append_left _ (List.mem_of_getElem? (i := 38) rfl))), rfl⟩
def q_tf_get0 (cI : ClassId) (f0 : Nat) (a1 : Nat) (c1 : Nat) (r1 : Nat) (y1 : Nat) (k1 : Nat) (j1 : Nat) (ibc : Int32) (ilc : Int32) (igl : Int32) (ibk : Int32) (ifa : Int32) (ibd : Int32) (a2 : Nat) (a3 : Nat) (px : Nat → Int32) (md : Nat → Int32) (vz : Int32) (vw : Int32) (vh : Int32) (vk : Int32) (x : Nat) (y : Nat) : Int32 → va_W → Prop := fun rr ww => rr = (px (y * 12 + x)) ∧ ww = [(f0, .inr (8, [.ref a1, .ref c1, .ref r1, .ref y1, .ref k1, .ref j1, .int ibc, .int ilc, .int igl, .int ibk, .int ifa, .int ibd])), (a1, .inr (5, [.ref a2, .ref a3, .int vz, .int vw, .int vh, .int vk])), (a2, .inl (cI, 144, .inl px)), (a3, .inl (cI, 9, .inl md))]
set_option maxHeartbeats 4000000 in
set_option maxRecDepth 100000 in
theorem c_tf_get0 (l : Launch) {D : va_G} {tys : List (ClassId × FieldType)} {cI : ClassId} (hcI : tys[0]? = some (cI, .int)) (f0 : Nat) (a1 : Nat) (c1 : Nat) (r1 : Nat) (y1 : Nat) (k1 : Nat) (j1 : Nat) (ibc : Int32) (ilc : Int32) (igl : Int32) (ibk : Int32) (ifa : Int32) (ibd : Int32) (a2 : Nat) (a3 : Nat) (px : Nat → Int32) (md : Nat → Int32) (vz : Int32) (vw : Int32) (vh : Int32) (vk : Int32) (x : Nat) (y : Nat) (hmd : ¬ vz = 0) (hx12 : x < 12) (hy12 : y < 12) (hxw : nI x < vw) (hyh : nI y < vh) : CsI l D vwCl tys y_TileForge_get ws_TileForge_get ({ frames := 2, cells := 0, slots := 0, locals := 44 } : Room) [.ref f0, .int 0, .int (nI x), .int (nI y)] [(f0, .inr (8, [.ref a1, .ref c1, .ref r1, .ref y1, .ref k1, .ref j1, .int ibc, .int ilc, .int igl, .int ibk, .int ifa, .int ibd])), (a1, .inr (5, [.ref a2, .ref a3, .int vz, .int vw, .int vh, .int vk])), (a2, .inl (cI, 144, .inl px)), (a3, .inl (cI, 9, .inl md))] (q_tf_get0 cI f0 a1 c1 r1 y1 k1 j1 ibc ilc igl ibk ifa ibd a2 a3 px md vz vw vh vk x y) 0 0 := by
  intro sz
  refine Met.ofW (cc := prog_1_method_10_code) (maxL := 5) (ret := (some .int)) (by decide) rfl ?_
  intro p e s m args below meth c s₁ B hml hv
  obtain ⟨rfl, hsz, hP, hK, hD0, hN⟩ := hv
  have hx := B.exec
  have hb := B.bytes
  have hr := B.returns
  have hts := atoms_spec (ws := ws_TileForge_get) B.pre
  have hown : s.vm.findClass "TileForge" = some m.cls := findClass_of_methodNamed B.named
  have hlocks := B.notSynchronized
  subst hsz
  have hD := hD0.self (sz := s.heap.size)
  generalize hAe : va_A [(f0, .inr (8, [.ref a1, .ref c1, .ref r1, .ref y1, .ref k1, .ref j1, .int ibc, .int ilc, .int igl, .int ibk, .int ifa, .int ibd])), (a1, .inr (5, [.ref a2, .ref a3, .int vz, .int vw, .int vh, .int vk])), (a2, .inl (cI, 144, .inl px)), (a3, .inl (cI, 9, .inl md))] s.heap.size = A at hD ⊢
  have hA : ∀ q : Nat, s.heap.size ≤ q → A q := fun q h => by rw [← hAe]; exact Or.inr h
  have hS : va_S A s.heap s.heap [] := va_S.rf
  have hP : va_P D vwCl [(f0, .inr (8, [.ref a1, .ref c1, .ref r1, .ref y1, .ref k1, .ref j1, .int ibc, .int ilc, .int igl, .int ibk, .int ifa, .int ibd])), (a1, .inr (5, [.ref a2, .ref a3, .int vz, .int vw, .int vh, .int vk])), (a2, .inl (cI, 144, .inl px)), (a3, .inl (cI, 9, .inl md))] s.heap := hP
  have hl := lv_entry ([.ref f0, .int 0, .int (nI x), .int (nI y)]) (n := 5) (Nat.le_of_ble_eq_true rfl)
  rw [lg_entry_eq]
  generalize (lg_sl ([.ref f0, .int 0, .int (nI x), .int (nI y)]) ++ List.replicate (5 - (lg_sl ([.ref f0, .int 0, .int (nI x), .int (nI y)])).length) Slot.unset).toArray = ls at hl ⊢
  have hl : lv_has ls 5 [(0, .ref f0), (1, .int 0), (2, .int (nI x)), (3, .int (nI y))] := hl
  refine lv_iload_n hx hb d_TileForge_get_0 rfl (lv_at hl 1 rfl) ?_
  refine cs_Si (As := [.int 0]) (rest := []) (wr := [(f0, .inr (8, [.ref a1, .ref c1, .ref r1, .ref y1, .ref k1, .ref j1, .int ibc, .int ilc, .int igl, .int ibk, .int ifa, .int ibd])), (a1, .inr (5, [.ref a2, .ref a3, .int vz, .int vw, .int vh, .int vk])), (a2, .inl (cI, 144, .inl px)), (a3, .inl (cI, 9, .inl md))]) ⟨hx, hb, hml, hown, hts⟩ (c_isChoice l hcI 0) (va_cwS 1 hts (cs_gS mw_518 mw_519 mw_139 mw_77) rfl rfl rfl hd_TileForge_isChoice ⟨Nat.le_of_ble_eq_true rfl, Nat.le_of_ble_eq_true rfl⟩) hN hK hP hD hS hA [] [0, 1, 2, 3] rfl rfl rfl rfl (by decide) rfl rfl hl.1 (Nat.le_of_ble_eq_true rfl) d_TileForge_get_1 ⟨Nat.le_of_ble_eq_true rfl, Nat.le_of_ble_eq_true rfl⟩ (fun r1 w1 H locs hw hP hD hS => ?_)
  obtain ⟨rfl, rfl⟩ := hw
  have hP : va_P D vwCl [(f0, .inr (8, [.ref a1, .ref c1, .ref r1, .ref y1, .ref k1, .ref j1, .int ibc, .int ilc, .int igl, .int ibk, .int ifa, .int ibd])), (a1, .inr (5, [.ref a2, .ref a3, .int vz, .int vw, .int vh, .int vk])), (a2, .inl (cI, 144, .inl px)), (a3, .inl (cI, 9, .inl md))] H := hP
  have hD : va_D A [(f0, .inr (8, [.ref a1, .ref c1, .ref r1, .ref y1, .ref k1, .ref j1, .int ibc, .int ilc, .int igl, .int ibk, .int ifa, .int ibd])), (a1, .inr (5, [.ref a2, .ref a3, .int vz, .int vw, .int vh, .int vk])), (a2, .inl (cI, 144, .inl px)), (a3, .inl (cI, 9, .inl md))] := hD
  refine lv_if_ne (tgt := 15) hx hb d_TileForge_get_4 (by decide) (fun c_4 => ?_) (fun c_4 => ?_)
  · have c_4 := cs_b1 c_4
    refine lv_aload_n hx hb d_TileForge_get_15 rfl (lv_at hl 0 rfl) ?_
    refine lv_iload_n hx hb d_TileForge_get_16 rfl (lv_at hl 1 rfl) ?_
    refine cs_Vr (As := [.int 0]) (rest := []) (wr := [(a1, .inr (5, [.ref a2, .ref a3, .int vz, .int vw, .int vh, .int vk])), (a2, .inl (cI, 144, .inl px)), (a3, .inl (cI, 9, .inl md))]) ⟨hx, hb, hml, hown, hts⟩ (c_tf_choose0 l hcI f0 a1 c1 r1 y1 k1 j1 ibc ilc igl ibk ifa ibd) (cwV 1 hts (cs_gV mw_520 mw_521 mw_522 mw_139 mw_472) rfl rfl rfl ⟨rfl, hd_TileForge_choose⟩ ⟨Nat.le_of_ble_eq_true rfl, Nat.le_of_ble_eq_true rfl⟩) hN hK hP hD hS hA [0] [1, 2, 3] rfl rfl rfl rfl (by decide) (ci := 8) rfl rfl rfl rfl rfl hl.1 (Nat.le_of_ble_eq_true rfl) d_TileForge_get_17 ⟨Nat.le_of_ble_eq_true rfl, Nat.le_of_ble_eq_true rfl⟩ (fun r2 w1 H locs hw hP hD hS => ?_)
    obtain ⟨hrr, rfl⟩ := hw
    have hrr := hrr.symm
    subst hrr
    have hP : va_P D vwCl [(a1, .inr (5, [.ref a2, .ref a3, .int vz, .int vw, .int vh, .int vk])), (a2, .inl (cI, 144, .inl px)), (a3, .inl (cI, 9, .inl md)), (f0, .inr (8, [.ref a1, .ref c1, .ref r1, .ref y1, .ref k1, .ref j1, .int ibc, .int ilc, .int igl, .int ibk, .int ifa, .int ibd]))] H := hP
    have hD : va_D A [(a1, .inr (5, [.ref a2, .ref a3, .int vz, .int vw, .int vh, .int vk])), (a2, .inl (cI, 144, .inl px)), (a3, .inl (cI, 9, .inl md)), (f0, .inr (8, [.ref a1, .ref c1, .ref r1, .ref y1, .ref k1, .ref j1, .int ibc, .int ilc, .int igl, .int ibk, .int ifa, .int ibd]))] := hD
    refine lv_astore (lv' := [(4, .ref a1), (0, .ref f0), (1, .int 0), (2, .int (nI x)), (3, .int (nI y))]) hx hb d_TileForge_get_20 hl (by decide) rfl (fun ls hl => ?_)
    refine lv_aload hx hb d_TileForge_get_22 (lv_at hl 0 rfl) ?_
    refine va_get (D := D) (ci := 5) (v := .int vz) (C := "TileForge$Picture") (T := T_Picture) (N := 6) hx hb hts (cs_in in_Picture) hown hK hP 0 rfl rfl 2 (by decide) (hts _ (cs_m mw_523)) (fun _ h9 => h9) rfl d_TileForge_get_24 ?_
    refine lv_if_ne (tgt := 38) hx hb d_TileForge_get_27 (by decide) (fun c_27 => ?_) (fun c_27 => ?_)
    · refine lv_aload hx hb d_TileForge_get_38 (lv_at hl 0 rfl) ?_
      refine lv_iload_n hx hb d_TileForge_get_40 rfl (lv_at hl 3 rfl) ?_
      refine lv_iload_n hx hb d_TileForge_get_41 rfl (lv_at hl 4 rfl) ?_
      refine cs_Vi (As := [.int (nI x), .int (nI y)]) (rest := []) (wr := [(f0, .inr (8, [.ref a1, .ref c1, .ref r1, .ref y1, .ref k1, .ref j1, .int ibc, .int ilc, .int igl, .int ibk, .int ifa, .int ibd]))]) ⟨hx, hb, hml, hown, hts⟩ (c_pic_has l hcI a1 a2 a3 px md vz vw vh vk (nI x) (nI y)) (cwV 2 hts (cs_gV mw_503 mw_95 mw_96 mw_93 mw_91) rfl rfl rfl ⟨rfl, hd_Picture_has⟩ ⟨Nat.le_of_ble_eq_true rfl, Nat.le_of_ble_eq_true rfl⟩) hN hK hP hD hS hA [0, 1, 2] [3] rfl rfl rfl rfl (by decide) (ci := 5) rfl rfl rfl rfl rfl hl.1 (Nat.le_of_ble_eq_true rfl) d_TileForge_get_42 ⟨Nat.le_of_ble_eq_true rfl, Nat.le_of_ble_eq_true rfl⟩ (fun r3 w1 H locs hw hP hD hS => ?_)
      obtain ⟨rfl, rfl⟩ := hw
      have hP : va_P D vwCl [(f0, .inr (8, [.ref a1, .ref c1, .ref r1, .ref y1, .ref k1, .ref j1, .int ibc, .int ilc, .int igl, .int ibk, .int ifa, .int ibd])), (a1, .inr (5, [.ref a2, .ref a3, .int vz, .int vw, .int vh, .int vk])), (a2, .inl (cI, 144, .inl px)), (a3, .inl (cI, 9, .inl md))] H := hP
      have hD : va_D A [(f0, .inr (8, [.ref a1, .ref c1, .ref r1, .ref y1, .ref k1, .ref j1, .int ibc, .int ilc, .int igl, .int ibk, .int ifa, .int ibd])), (a1, .inr (5, [.ref a2, .ref a3, .int vz, .int vw, .int vh, .int vk])), (a2, .inl (cI, 144, .inl px)), (a3, .inl (cI, 9, .inl md))] := hD
      refine lv_if_ne (tgt := 56) hx hb d_TileForge_get_45 (by decide) (fun c_45 => ?_) (fun c_45 => ?_)
      · have c_45 := cs_b1 c_45
        refine lv_aload hx hb d_TileForge_get_56 (lv_at hl 0 rfl) ?_
        refine lv_iload_n hx hb d_TileForge_get_58 rfl (lv_at hl 3 rfl) ?_
        refine lv_iload_n hx hb d_TileForge_get_59 rfl (lv_at hl 4 rfl) ?_
        refine cs_Vi (As := [.int (nI x), .int (nI y)]) (rest := []) (wr := [(f0, .inr (8, [.ref a1, .ref c1, .ref r1, .ref y1, .ref k1, .ref j1, .int ibc, .int ilc, .int igl, .int ibk, .int ifa, .int ibd]))]) ⟨hx, hb, hml, hown, hts⟩ (c_pic_look l hcI a1 a2 a3 px md vz vw vh vk x y (hx12) (hy12) (hxw) (hyh)) (cwV 2 hts (cs_gV mw_479 mw_195 mw_196 mw_93 mw_92) rfl rfl rfl ⟨rfl, hd_Picture_look⟩ ⟨Nat.le_of_ble_eq_true rfl, Nat.le_of_ble_eq_true rfl⟩) hN hK hP hD hS hA [1, 2, 3] [0] rfl rfl rfl rfl (by decide) (ci := 5) rfl rfl rfl rfl rfl hl.1 (Nat.le_of_ble_eq_true rfl) d_TileForge_get_60 ⟨Nat.le_of_ble_eq_true rfl, Nat.le_of_ble_eq_true rfl⟩ (fun r4 w1 H locs hw hP hD hS => ?_)
        obtain ⟨rfl, rfl⟩ := hw
        have hP : va_P D vwCl [(f0, .inr (8, [.ref a1, .ref c1, .ref r1, .ref y1, .ref k1, .ref j1, .int ibc, .int ilc, .int igl, .int ibk, .int ifa, .int ibd])), (a1, .inr (5, [.ref a2, .ref a3, .int vz, .int vw, .int vh, .int vk])), (a2, .inl (cI, 144, .inl px)), (a3, .inl (cI, 9, .inl md))] H := hP
        have hD : va_D A [(f0, .inr (8, [.ref a1, .ref c1, .ref r1, .ref y1, .ref k1, .ref j1, .int ibc, .int ilc, .int igl, .int ibk, .int ifa, .int ibd])), (a1, .inr (5, [.ref a2, .ref a3, .int vz, .int vw, .int vh, .int vk])), (a2, .inl (cI, 144, .inl px)), (a3, .inl (cI, 9, .inl md))] := hD
        exact W.iret (v := (px (y * 12 + x))) hx hb hr (fun t ht hW => ⟨⟨(px (y * 12 + x)), [(f0, .inr (8, [.ref a1, .ref c1, .ref r1, .ref y1, .ref k1, .ref j1, .int ibc, .int ilc, .int igl, .int ibk, .int ifa, .int ibd])), (a1, .inr (5, [.ref a2, .ref a3, .int vz, .int vw, .int vh, .int vk])), (a2, .inl (cI, 144, .inl px)), (a3, .inl (cI, 9, .inl md))], rfl, ⟨(rfl), (rfl)⟩, by rw [ht]; exact hP, va_K.moved hW.alike hK, hD⟩, hS.F ht⟩) hS.2.2 d_TileForge_get_63
      · have c_45 := cs_b0 c_45
        exact absurd (hasP_in hx12 hy12 hxw hyh) c_45
    · exact absurd c_27 hmd
  · have c_4 := cs_b0 c_4
    exact absurd (by decide) c_4
def q_tf_get1 (cI : ClassId) (f0 : Nat) (a1 : Nat) (c1 : Nat) (r1 : Nat) (y1 : Nat) (k1 : Nat) (j1 : Nat) (ibc : Int32) (ilc : Int32) (igl : Int32) (ibk : Int32) (ifa : Int32) (ibd : Int32) (c2 : Nat) (c3 : Nat) (pxc : Nat → Int32) (mdc : Nat → Int32) (vzc : Int32) (vwc : Int32) (vhc : Int32) (vkc : Int32) (x : Nat) (y : Nat) : Int32 → va_W → Prop := fun rr ww => rr = (pxc (y * 12 + x)) ∧ ww = [(f0, .inr (8, [.ref a1, .ref c1, .ref r1, .ref y1, .ref k1, .ref j1, .int ibc, .int ilc, .int igl, .int ibk, .int ifa, .int ibd])), (c1, .inr (5, [.ref c2, .ref c3, .int vzc, .int vwc, .int vhc, .int vkc])), (c2, .inl (cI, 144, .inl pxc)), (c3, .inl (cI, 9, .inl mdc))]
set_option maxHeartbeats 4000000 in
set_option maxRecDepth 100000 in
theorem c_tf_get1 (l : Launch) {D : va_G} {tys : List (ClassId × FieldType)} {cI : ClassId} (hcI : tys[0]? = some (cI, .int)) (f0 : Nat) (a1 : Nat) (c1 : Nat) (r1 : Nat) (y1 : Nat) (k1 : Nat) (j1 : Nat) (ibc : Int32) (ilc : Int32) (igl : Int32) (ibk : Int32) (ifa : Int32) (ibd : Int32) (c2 : Nat) (c3 : Nat) (pxc : Nat → Int32) (mdc : Nat → Int32) (vzc : Int32) (vwc : Int32) (vhc : Int32) (vkc : Int32) (x : Nat) (y : Nat) (hmd : ¬ vzc = 0) (hx12 : x < 12) (hy12 : y < 12) (hxw : nI x < vwc) (hyh : nI y < vhc) : CsI l D vwCl tys y_TileForge_get ws_TileForge_get ({ frames := 2, cells := 0, slots := 0, locals := 44 } : Room) [.ref f0, .int 1, .int (nI x), .int (nI y)] [(f0, .inr (8, [.ref a1, .ref c1, .ref r1, .ref y1, .ref k1, .ref j1, .int ibc, .int ilc, .int igl, .int ibk, .int ifa, .int ibd])), (c1, .inr (5, [.ref c2, .ref c3, .int vzc, .int vwc, .int vhc, .int vkc])), (c2, .inl (cI, 144, .inl pxc)), (c3, .inl (cI, 9, .inl mdc))] (q_tf_get1 cI f0 a1 c1 r1 y1 k1 j1 ibc ilc igl ibk ifa ibd c2 c3 pxc mdc vzc vwc vhc vkc x y) 0 0 := by
  intro sz
  refine Met.ofW (cc := prog_1_method_10_code) (maxL := 5) (ret := (some .int)) (by decide) rfl ?_
  intro p e s m args below meth c s₁ B hml hv
  obtain ⟨rfl, hsz, hP, hK, hD0, hN⟩ := hv
  have hx := B.exec
  have hb := B.bytes
  have hr := B.returns
  have hts := atoms_spec (ws := ws_TileForge_get) B.pre
  have hown : s.vm.findClass "TileForge" = some m.cls := findClass_of_methodNamed B.named
  have hlocks := B.notSynchronized
  subst hsz
  have hD := hD0.self (sz := s.heap.size)
  generalize hAe : va_A [(f0, .inr (8, [.ref a1, .ref c1, .ref r1, .ref y1, .ref k1, .ref j1, .int ibc, .int ilc, .int igl, .int ibk, .int ifa, .int ibd])), (c1, .inr (5, [.ref c2, .ref c3, .int vzc, .int vwc, .int vhc, .int vkc])), (c2, .inl (cI, 144, .inl pxc)), (c3, .inl (cI, 9, .inl mdc))] s.heap.size = A at hD ⊢
  have hA : ∀ q : Nat, s.heap.size ≤ q → A q := fun q h => by rw [← hAe]; exact Or.inr h
  have hS : va_S A s.heap s.heap [] := va_S.rf
  have hP : va_P D vwCl [(f0, .inr (8, [.ref a1, .ref c1, .ref r1, .ref y1, .ref k1, .ref j1, .int ibc, .int ilc, .int igl, .int ibk, .int ifa, .int ibd])), (c1, .inr (5, [.ref c2, .ref c3, .int vzc, .int vwc, .int vhc, .int vkc])), (c2, .inl (cI, 144, .inl pxc)), (c3, .inl (cI, 9, .inl mdc))] s.heap := hP
  have hl := lv_entry ([.ref f0, .int 1, .int (nI x), .int (nI y)]) (n := 5) (Nat.le_of_ble_eq_true rfl)
  rw [lg_entry_eq]
  generalize (lg_sl ([.ref f0, .int 1, .int (nI x), .int (nI y)]) ++ List.replicate (5 - (lg_sl ([.ref f0, .int 1, .int (nI x), .int (nI y)])).length) Slot.unset).toArray = ls at hl ⊢
  have hl : lv_has ls 5 [(0, .ref f0), (1, .int 1), (2, .int (nI x)), (3, .int (nI y))] := hl
  refine lv_iload_n hx hb d_TileForge_get_0 rfl (lv_at hl 1 rfl) ?_
  refine cs_Si (As := [.int 1]) (rest := []) (wr := [(f0, .inr (8, [.ref a1, .ref c1, .ref r1, .ref y1, .ref k1, .ref j1, .int ibc, .int ilc, .int igl, .int ibk, .int ifa, .int ibd])), (c1, .inr (5, [.ref c2, .ref c3, .int vzc, .int vwc, .int vhc, .int vkc])), (c2, .inl (cI, 144, .inl pxc)), (c3, .inl (cI, 9, .inl mdc))]) ⟨hx, hb, hml, hown, hts⟩ (c_isChoice l hcI 1) (va_cwS 1 hts (cs_gS mw_518 mw_519 mw_139 mw_77) rfl rfl rfl hd_TileForge_isChoice ⟨Nat.le_of_ble_eq_true rfl, Nat.le_of_ble_eq_true rfl⟩) hN hK hP hD hS hA [] [0, 1, 2, 3] rfl rfl rfl rfl (by decide) rfl rfl hl.1 (Nat.le_of_ble_eq_true rfl) d_TileForge_get_1 ⟨Nat.le_of_ble_eq_true rfl, Nat.le_of_ble_eq_true rfl⟩ (fun r1 w1 H locs hw hP hD hS => ?_)
  obtain ⟨rfl, rfl⟩ := hw
  have hP : va_P D vwCl [(f0, .inr (8, [.ref a1, .ref c1, .ref r1, .ref y1, .ref k1, .ref j1, .int ibc, .int ilc, .int igl, .int ibk, .int ifa, .int ibd])), (c1, .inr (5, [.ref c2, .ref c3, .int vzc, .int vwc, .int vhc, .int vkc])), (c2, .inl (cI, 144, .inl pxc)), (c3, .inl (cI, 9, .inl mdc))] H := hP
  have hD : va_D A [(f0, .inr (8, [.ref a1, .ref c1, .ref r1, .ref y1, .ref k1, .ref j1, .int ibc, .int ilc, .int igl, .int ibk, .int ifa, .int ibd])), (c1, .inr (5, [.ref c2, .ref c3, .int vzc, .int vwc, .int vhc, .int vkc])), (c2, .inl (cI, 144, .inl pxc)), (c3, .inl (cI, 9, .inl mdc))] := hD
  refine lv_if_ne (tgt := 15) hx hb d_TileForge_get_4 (by decide) (fun c_4 => ?_) (fun c_4 => ?_)
  · have c_4 := cs_b1 c_4
    refine lv_aload_n hx hb d_TileForge_get_15 rfl (lv_at hl 0 rfl) ?_
    refine lv_iload_n hx hb d_TileForge_get_16 rfl (lv_at hl 1 rfl) ?_
    refine cs_Vr (As := [.int 1]) (rest := []) (wr := [(c1, .inr (5, [.ref c2, .ref c3, .int vzc, .int vwc, .int vhc, .int vkc])), (c2, .inl (cI, 144, .inl pxc)), (c3, .inl (cI, 9, .inl mdc))]) ⟨hx, hb, hml, hown, hts⟩ (c_tf_choose1 l hcI f0 a1 c1 r1 y1 k1 j1 ibc ilc igl ibk ifa ibd) (cwV 1 hts (cs_gV mw_520 mw_521 mw_522 mw_139 mw_472) rfl rfl rfl ⟨rfl, hd_TileForge_choose⟩ ⟨Nat.le_of_ble_eq_true rfl, Nat.le_of_ble_eq_true rfl⟩) hN hK hP hD hS hA [0] [1, 2, 3] rfl rfl rfl rfl (by decide) (ci := 8) rfl rfl rfl rfl rfl hl.1 (Nat.le_of_ble_eq_true rfl) d_TileForge_get_17 ⟨Nat.le_of_ble_eq_true rfl, Nat.le_of_ble_eq_true rfl⟩ (fun r2 w1 H locs hw hP hD hS => ?_)
    obtain ⟨hrr, rfl⟩ := hw
    have hrr := hrr.symm
    subst hrr
    have hP : va_P D vwCl [(c1, .inr (5, [.ref c2, .ref c3, .int vzc, .int vwc, .int vhc, .int vkc])), (c2, .inl (cI, 144, .inl pxc)), (c3, .inl (cI, 9, .inl mdc)), (f0, .inr (8, [.ref a1, .ref c1, .ref r1, .ref y1, .ref k1, .ref j1, .int ibc, .int ilc, .int igl, .int ibk, .int ifa, .int ibd]))] H := hP
    have hD : va_D A [(c1, .inr (5, [.ref c2, .ref c3, .int vzc, .int vwc, .int vhc, .int vkc])), (c2, .inl (cI, 144, .inl pxc)), (c3, .inl (cI, 9, .inl mdc)), (f0, .inr (8, [.ref a1, .ref c1, .ref r1, .ref y1, .ref k1, .ref j1, .int ibc, .int ilc, .int igl, .int ibk, .int ifa, .int ibd]))] := hD
    refine lv_astore (lv' := [(4, .ref c1), (0, .ref f0), (1, .int 1), (2, .int (nI x)), (3, .int (nI y))]) hx hb d_TileForge_get_20 hl (by decide) rfl (fun ls hl => ?_)
    refine lv_aload hx hb d_TileForge_get_22 (lv_at hl 0 rfl) ?_
    refine va_get (D := D) (ci := 5) (v := .int vzc) (C := "TileForge$Picture") (T := T_Picture) (N := 6) hx hb hts (cs_in in_Picture) hown hK hP 0 rfl rfl 2 (by decide) (hts _ (cs_m mw_523)) (fun _ h9 => h9) rfl d_TileForge_get_24 ?_
    refine lv_if_ne (tgt := 38) hx hb d_TileForge_get_27 (by decide) (fun c_27 => ?_) (fun c_27 => ?_)
    · refine lv_aload hx hb d_TileForge_get_38 (lv_at hl 0 rfl) ?_
      refine lv_iload_n hx hb d_TileForge_get_40 rfl (lv_at hl 3 rfl) ?_
      refine lv_iload_n hx hb d_TileForge_get_41 rfl (lv_at hl 4 rfl) ?_
      refine cs_Vi (As := [.int (nI x), .int (nI y)]) (rest := []) (wr := [(f0, .inr (8, [.ref a1, .ref c1, .ref r1, .ref y1, .ref k1, .ref j1, .int ibc, .int ilc, .int igl, .int ibk, .int ifa, .int ibd]))]) ⟨hx, hb, hml, hown, hts⟩ (c_pic_has l hcI c1 c2 c3 pxc mdc vzc vwc vhc vkc (nI x) (nI y)) (cwV 2 hts (cs_gV mw_503 mw_95 mw_96 mw_93 mw_91) rfl rfl rfl ⟨rfl, hd_Picture_has⟩ ⟨Nat.le_of_ble_eq_true rfl, Nat.le_of_ble_eq_true rfl⟩) hN hK hP hD hS hA [0, 1, 2] [3] rfl rfl rfl rfl (by decide) (ci := 5) rfl rfl rfl rfl rfl hl.1 (Nat.le_of_ble_eq_true rfl) d_TileForge_get_42 ⟨Nat.le_of_ble_eq_true rfl, Nat.le_of_ble_eq_true rfl⟩ (fun r3 w1 H locs hw hP hD hS => ?_)
      obtain ⟨rfl, rfl⟩ := hw
      have hP : va_P D vwCl [(f0, .inr (8, [.ref a1, .ref c1, .ref r1, .ref y1, .ref k1, .ref j1, .int ibc, .int ilc, .int igl, .int ibk, .int ifa, .int ibd])), (c1, .inr (5, [.ref c2, .ref c3, .int vzc, .int vwc, .int vhc, .int vkc])), (c2, .inl (cI, 144, .inl pxc)), (c3, .inl (cI, 9, .inl mdc))] H := hP
      have hD : va_D A [(f0, .inr (8, [.ref a1, .ref c1, .ref r1, .ref y1, .ref k1, .ref j1, .int ibc, .int ilc, .int igl, .int ibk, .int ifa, .int ibd])), (c1, .inr (5, [.ref c2, .ref c3, .int vzc, .int vwc, .int vhc, .int vkc])), (c2, .inl (cI, 144, .inl pxc)), (c3, .inl (cI, 9, .inl mdc))] := hD
      refine lv_if_ne (tgt := 56) hx hb d_TileForge_get_45 (by decide) (fun c_45 => ?_) (fun c_45 => ?_)
      · have c_45 := cs_b1 c_45
        refine lv_aload hx hb d_TileForge_get_56 (lv_at hl 0 rfl) ?_
        refine lv_iload_n hx hb d_TileForge_get_58 rfl (lv_at hl 3 rfl) ?_
        refine lv_iload_n hx hb d_TileForge_get_59 rfl (lv_at hl 4 rfl) ?_
        refine cs_Vi (As := [.int (nI x), .int (nI y)]) (rest := []) (wr := [(f0, .inr (8, [.ref a1, .ref c1, .ref r1, .ref y1, .ref k1, .ref j1, .int ibc, .int ilc, .int igl, .int ibk, .int ifa, .int ibd]))]) ⟨hx, hb, hml, hown, hts⟩ (c_pic_look l hcI c1 c2 c3 pxc mdc vzc vwc vhc vkc x y (hx12) (hy12) (hxw) (hyh)) (cwV 2 hts (cs_gV mw_479 mw_195 mw_196 mw_93 mw_92) rfl rfl rfl ⟨rfl, hd_Picture_look⟩ ⟨Nat.le_of_ble_eq_true rfl, Nat.le_of_ble_eq_true rfl⟩) hN hK hP hD hS hA [1, 2, 3] [0] rfl rfl rfl rfl (by decide) (ci := 5) rfl rfl rfl rfl rfl hl.1 (Nat.le_of_ble_eq_true rfl) d_TileForge_get_60 ⟨Nat.le_of_ble_eq_true rfl, Nat.le_of_ble_eq_true rfl⟩ (fun r4 w1 H locs hw hP hD hS => ?_)
        obtain ⟨rfl, rfl⟩ := hw
        have hP : va_P D vwCl [(f0, .inr (8, [.ref a1, .ref c1, .ref r1, .ref y1, .ref k1, .ref j1, .int ibc, .int ilc, .int igl, .int ibk, .int ifa, .int ibd])), (c1, .inr (5, [.ref c2, .ref c3, .int vzc, .int vwc, .int vhc, .int vkc])), (c2, .inl (cI, 144, .inl pxc)), (c3, .inl (cI, 9, .inl mdc))] H := hP
        have hD : va_D A [(f0, .inr (8, [.ref a1, .ref c1, .ref r1, .ref y1, .ref k1, .ref j1, .int ibc, .int ilc, .int igl, .int ibk, .int ifa, .int ibd])), (c1, .inr (5, [.ref c2, .ref c3, .int vzc, .int vwc, .int vhc, .int vkc])), (c2, .inl (cI, 144, .inl pxc)), (c3, .inl (cI, 9, .inl mdc))] := hD
        exact W.iret (v := (pxc (y * 12 + x))) hx hb hr (fun t ht hW => ⟨⟨(pxc (y * 12 + x)), [(f0, .inr (8, [.ref a1, .ref c1, .ref r1, .ref y1, .ref k1, .ref j1, .int ibc, .int ilc, .int igl, .int ibk, .int ifa, .int ibd])), (c1, .inr (5, [.ref c2, .ref c3, .int vzc, .int vwc, .int vhc, .int vkc])), (c2, .inl (cI, 144, .inl pxc)), (c3, .inl (cI, 9, .inl mdc))], rfl, ⟨(rfl), (rfl)⟩, by rw [ht]; exact hP, va_K.moved hW.alike hK, hD⟩, hS.F ht⟩) hS.2.2 d_TileForge_get_63
      · have c_45 := cs_b0 c_45
        exact absurd (hasP_in hx12 hy12 hxw hyh) c_45
    · exact absurd c_27 hmd
  · have c_4 := cs_b0 c_4
    exact absurd (by decide) c_4
def q_tf_get2 (cI : ClassId) (f0 : Nat) (a1 : Nat) (c1 : Nat) (r1 : Nat) (y1 : Nat) (k1 : Nat) (j1 : Nat) (ibc : Int32) (ilc : Int32) (igl : Int32) (ibk : Int32) (ifa : Int32) (ibd : Int32) (r2 : Nat) (r3 : Nat) (pxr : Nat → Int32) (mdr : Nat → Int32) (vzr : Int32) (vwr : Int32) (vhr : Int32) (vkr : Int32) (x : Nat) (y : Nat) : Int32 → va_W → Prop := fun rr ww => rr = (pxr (y * 12 + x)) ∧ ww = [(f0, .inr (8, [.ref a1, .ref c1, .ref r1, .ref y1, .ref k1, .ref j1, .int ibc, .int ilc, .int igl, .int ibk, .int ifa, .int ibd])), (r1, .inr (5, [.ref r2, .ref r3, .int vzr, .int vwr, .int vhr, .int vkr])), (r2, .inl (cI, 144, .inl pxr)), (r3, .inl (cI, 9, .inl mdr))]
set_option maxHeartbeats 4000000 in
set_option maxRecDepth 100000 in
theorem c_tf_get2 (l : Launch) {D : va_G} {tys : List (ClassId × FieldType)} {cI : ClassId} (hcI : tys[0]? = some (cI, .int)) (f0 : Nat) (a1 : Nat) (c1 : Nat) (r1 : Nat) (y1 : Nat) (k1 : Nat) (j1 : Nat) (ibc : Int32) (ilc : Int32) (igl : Int32) (ibk : Int32) (ifa : Int32) (ibd : Int32) (r2 : Nat) (r3 : Nat) (pxr : Nat → Int32) (mdr : Nat → Int32) (vzr : Int32) (vwr : Int32) (vhr : Int32) (vkr : Int32) (x : Nat) (y : Nat) (hmd : ¬ vzr = 0) (hx12 : x < 12) (hy12 : y < 12) (hxw : nI x < vwr) (hyh : nI y < vhr) : CsI l D vwCl tys y_TileForge_get ws_TileForge_get ({ frames := 2, cells := 0, slots := 0, locals := 44 } : Room) [.ref f0, .int 2, .int (nI x), .int (nI y)] [(f0, .inr (8, [.ref a1, .ref c1, .ref r1, .ref y1, .ref k1, .ref j1, .int ibc, .int ilc, .int igl, .int ibk, .int ifa, .int ibd])), (r1, .inr (5, [.ref r2, .ref r3, .int vzr, .int vwr, .int vhr, .int vkr])), (r2, .inl (cI, 144, .inl pxr)), (r3, .inl (cI, 9, .inl mdr))] (q_tf_get2 cI f0 a1 c1 r1 y1 k1 j1 ibc ilc igl ibk ifa ibd r2 r3 pxr mdr vzr vwr vhr vkr x y) 0 0 := by
  intro sz
  refine Met.ofW (cc := prog_1_method_10_code) (maxL := 5) (ret := (some .int)) (by decide) rfl ?_
  intro p e s m args below meth c s₁ B hml hv
  obtain ⟨rfl, hsz, hP, hK, hD0, hN⟩ := hv
  have hx := B.exec
  have hb := B.bytes
  have hr := B.returns
  have hts := atoms_spec (ws := ws_TileForge_get) B.pre
  have hown : s.vm.findClass "TileForge" = some m.cls := findClass_of_methodNamed B.named
  have hlocks := B.notSynchronized
  subst hsz
  have hD := hD0.self (sz := s.heap.size)
  generalize hAe : va_A [(f0, .inr (8, [.ref a1, .ref c1, .ref r1, .ref y1, .ref k1, .ref j1, .int ibc, .int ilc, .int igl, .int ibk, .int ifa, .int ibd])), (r1, .inr (5, [.ref r2, .ref r3, .int vzr, .int vwr, .int vhr, .int vkr])), (r2, .inl (cI, 144, .inl pxr)), (r3, .inl (cI, 9, .inl mdr))] s.heap.size = A at hD ⊢
  have hA : ∀ q : Nat, s.heap.size ≤ q → A q := fun q h => by rw [← hAe]; exact Or.inr h
  have hS : va_S A s.heap s.heap [] := va_S.rf
  have hP : va_P D vwCl [(f0, .inr (8, [.ref a1, .ref c1, .ref r1, .ref y1, .ref k1, .ref j1, .int ibc, .int ilc, .int igl, .int ibk, .int ifa, .int ibd])), (r1, .inr (5, [.ref r2, .ref r3, .int vzr, .int vwr, .int vhr, .int vkr])), (r2, .inl (cI, 144, .inl pxr)), (r3, .inl (cI, 9, .inl mdr))] s.heap := hP
  have hl := lv_entry ([.ref f0, .int 2, .int (nI x), .int (nI y)]) (n := 5) (Nat.le_of_ble_eq_true rfl)
  rw [lg_entry_eq]
  generalize (lg_sl ([.ref f0, .int 2, .int (nI x), .int (nI y)]) ++ List.replicate (5 - (lg_sl ([.ref f0, .int 2, .int (nI x), .int (nI y)])).length) Slot.unset).toArray = ls at hl ⊢
  have hl : lv_has ls 5 [(0, .ref f0), (1, .int 2), (2, .int (nI x)), (3, .int (nI y))] := hl
  refine lv_iload_n hx hb d_TileForge_get_0 rfl (lv_at hl 1 rfl) ?_
  refine cs_Si (As := [.int 2]) (rest := []) (wr := [(f0, .inr (8, [.ref a1, .ref c1, .ref r1, .ref y1, .ref k1, .ref j1, .int ibc, .int ilc, .int igl, .int ibk, .int ifa, .int ibd])), (r1, .inr (5, [.ref r2, .ref r3, .int vzr, .int vwr, .int vhr, .int vkr])), (r2, .inl (cI, 144, .inl pxr)), (r3, .inl (cI, 9, .inl mdr))]) ⟨hx, hb, hml, hown, hts⟩ (c_isChoice l hcI 2) (va_cwS 1 hts (cs_gS mw_518 mw_519 mw_139 mw_77) rfl rfl rfl hd_TileForge_isChoice ⟨Nat.le_of_ble_eq_true rfl, Nat.le_of_ble_eq_true rfl⟩) hN hK hP hD hS hA [] [0, 1, 2, 3] rfl rfl rfl rfl (by decide) rfl rfl hl.1 (Nat.le_of_ble_eq_true rfl) d_TileForge_get_1 ⟨Nat.le_of_ble_eq_true rfl, Nat.le_of_ble_eq_true rfl⟩ (fun r1 w1 H locs hw hP hD hS => ?_)
  obtain ⟨rfl, rfl⟩ := hw
  have hP : va_P D vwCl [(f0, .inr (8, [.ref a1, .ref c1, .ref r1, .ref y1, .ref k1, .ref j1, .int ibc, .int ilc, .int igl, .int ibk, .int ifa, .int ibd])), (r1, .inr (5, [.ref r2, .ref r3, .int vzr, .int vwr, .int vhr, .int vkr])), (r2, .inl (cI, 144, .inl pxr)), (r3, .inl (cI, 9, .inl mdr))] H := hP
  have hD : va_D A [(f0, .inr (8, [.ref a1, .ref c1, .ref r1, .ref y1, .ref k1, .ref j1, .int ibc, .int ilc, .int igl, .int ibk, .int ifa, .int ibd])), (r1, .inr (5, [.ref r2, .ref r3, .int vzr, .int vwr, .int vhr, .int vkr])), (r2, .inl (cI, 144, .inl pxr)), (r3, .inl (cI, 9, .inl mdr))] := hD
  refine lv_if_ne (tgt := 15) hx hb d_TileForge_get_4 (by decide) (fun c_4 => ?_) (fun c_4 => ?_)
  · have c_4 := cs_b1 c_4
    refine lv_aload_n hx hb d_TileForge_get_15 rfl (lv_at hl 0 rfl) ?_
    refine lv_iload_n hx hb d_TileForge_get_16 rfl (lv_at hl 1 rfl) ?_
    refine cs_Vr (As := [.int 2]) (rest := []) (wr := [(r1, .inr (5, [.ref r2, .ref r3, .int vzr, .int vwr, .int vhr, .int vkr])), (r2, .inl (cI, 144, .inl pxr)), (r3, .inl (cI, 9, .inl mdr))]) ⟨hx, hb, hml, hown, hts⟩ (c_tf_choose2 l hcI f0 a1 c1 r1 y1 k1 j1 ibc ilc igl ibk ifa ibd) (cwV 1 hts (cs_gV mw_520 mw_521 mw_522 mw_139 mw_472) rfl rfl rfl ⟨rfl, hd_TileForge_choose⟩ ⟨Nat.le_of_ble_eq_true rfl, Nat.le_of_ble_eq_true rfl⟩) hN hK hP hD hS hA [0] [1, 2, 3] rfl rfl rfl rfl (by decide) (ci := 8) rfl rfl rfl rfl rfl hl.1 (Nat.le_of_ble_eq_true rfl) d_TileForge_get_17 ⟨Nat.le_of_ble_eq_true rfl, Nat.le_of_ble_eq_true rfl⟩ (fun r2 w1 H locs hw hP hD hS => ?_)
    obtain ⟨hrr, rfl⟩ := hw
    have hrr := hrr.symm
    subst hrr
    have hP : va_P D vwCl [(r1, .inr (5, [.ref r2, .ref r3, .int vzr, .int vwr, .int vhr, .int vkr])), (r2, .inl (cI, 144, .inl pxr)), (r3, .inl (cI, 9, .inl mdr)), (f0, .inr (8, [.ref a1, .ref c1, .ref r1, .ref y1, .ref k1, .ref j1, .int ibc, .int ilc, .int igl, .int ibk, .int ifa, .int ibd]))] H := hP
    have hD : va_D A [(r1, .inr (5, [.ref r2, .ref r3, .int vzr, .int vwr, .int vhr, .int vkr])), (r2, .inl (cI, 144, .inl pxr)), (r3, .inl (cI, 9, .inl mdr)), (f0, .inr (8, [.ref a1, .ref c1, .ref r1, .ref y1, .ref k1, .ref j1, .int ibc, .int ilc, .int igl, .int ibk, .int ifa, .int ibd]))] := hD
    refine lv_astore (lv' := [(4, .ref r1), (0, .ref f0), (1, .int 2), (2, .int (nI x)), (3, .int (nI y))]) hx hb d_TileForge_get_20 hl (by decide) rfl (fun ls hl => ?_)
    refine lv_aload hx hb d_TileForge_get_22 (lv_at hl 0 rfl) ?_
    refine va_get (D := D) (ci := 5) (v := .int vzr) (C := "TileForge$Picture") (T := T_Picture) (N := 6) hx hb hts (cs_in in_Picture) hown hK hP 0 rfl rfl 2 (by decide) (hts _ (cs_m mw_523)) (fun _ h9 => h9) rfl d_TileForge_get_24 ?_
    refine lv_if_ne (tgt := 38) hx hb d_TileForge_get_27 (by decide) (fun c_27 => ?_) (fun c_27 => ?_)
    · refine lv_aload hx hb d_TileForge_get_38 (lv_at hl 0 rfl) ?_
      refine lv_iload_n hx hb d_TileForge_get_40 rfl (lv_at hl 3 rfl) ?_
      refine lv_iload_n hx hb d_TileForge_get_41 rfl (lv_at hl 4 rfl) ?_
      refine cs_Vi (As := [.int (nI x), .int (nI y)]) (rest := []) (wr := [(f0, .inr (8, [.ref a1, .ref c1, .ref r1, .ref y1, .ref k1, .ref j1, .int ibc, .int ilc, .int igl, .int ibk, .int ifa, .int ibd]))]) ⟨hx, hb, hml, hown, hts⟩ (c_pic_has l hcI r1 r2 r3 pxr mdr vzr vwr vhr vkr (nI x) (nI y)) (cwV 2 hts (cs_gV mw_503 mw_95 mw_96 mw_93 mw_91) rfl rfl rfl ⟨rfl, hd_Picture_has⟩ ⟨Nat.le_of_ble_eq_true rfl, Nat.le_of_ble_eq_true rfl⟩) hN hK hP hD hS hA [0, 1, 2] [3] rfl rfl rfl rfl (by decide) (ci := 5) rfl rfl rfl rfl rfl hl.1 (Nat.le_of_ble_eq_true rfl) d_TileForge_get_42 ⟨Nat.le_of_ble_eq_true rfl, Nat.le_of_ble_eq_true rfl⟩ (fun r3 w1 H locs hw hP hD hS => ?_)
      obtain ⟨rfl, rfl⟩ := hw
      have hP : va_P D vwCl [(f0, .inr (8, [.ref a1, .ref c1, .ref r1, .ref y1, .ref k1, .ref j1, .int ibc, .int ilc, .int igl, .int ibk, .int ifa, .int ibd])), (r1, .inr (5, [.ref r2, .ref r3, .int vzr, .int vwr, .int vhr, .int vkr])), (r2, .inl (cI, 144, .inl pxr)), (r3, .inl (cI, 9, .inl mdr))] H := hP
      have hD : va_D A [(f0, .inr (8, [.ref a1, .ref c1, .ref r1, .ref y1, .ref k1, .ref j1, .int ibc, .int ilc, .int igl, .int ibk, .int ifa, .int ibd])), (r1, .inr (5, [.ref r2, .ref r3, .int vzr, .int vwr, .int vhr, .int vkr])), (r2, .inl (cI, 144, .inl pxr)), (r3, .inl (cI, 9, .inl mdr))] := hD
      refine lv_if_ne (tgt := 56) hx hb d_TileForge_get_45 (by decide) (fun c_45 => ?_) (fun c_45 => ?_)
      · have c_45 := cs_b1 c_45
        refine lv_aload hx hb d_TileForge_get_56 (lv_at hl 0 rfl) ?_
        refine lv_iload_n hx hb d_TileForge_get_58 rfl (lv_at hl 3 rfl) ?_
        refine lv_iload_n hx hb d_TileForge_get_59 rfl (lv_at hl 4 rfl) ?_
        refine cs_Vi (As := [.int (nI x), .int (nI y)]) (rest := []) (wr := [(f0, .inr (8, [.ref a1, .ref c1, .ref r1, .ref y1, .ref k1, .ref j1, .int ibc, .int ilc, .int igl, .int ibk, .int ifa, .int ibd]))]) ⟨hx, hb, hml, hown, hts⟩ (c_pic_look l hcI r1 r2 r3 pxr mdr vzr vwr vhr vkr x y (hx12) (hy12) (hxw) (hyh)) (cwV 2 hts (cs_gV mw_479 mw_195 mw_196 mw_93 mw_92) rfl rfl rfl ⟨rfl, hd_Picture_look⟩ ⟨Nat.le_of_ble_eq_true rfl, Nat.le_of_ble_eq_true rfl⟩) hN hK hP hD hS hA [1, 2, 3] [0] rfl rfl rfl rfl (by decide) (ci := 5) rfl rfl rfl rfl rfl hl.1 (Nat.le_of_ble_eq_true rfl) d_TileForge_get_60 ⟨Nat.le_of_ble_eq_true rfl, Nat.le_of_ble_eq_true rfl⟩ (fun r4 w1 H locs hw hP hD hS => ?_)
        obtain ⟨rfl, rfl⟩ := hw
        have hP : va_P D vwCl [(f0, .inr (8, [.ref a1, .ref c1, .ref r1, .ref y1, .ref k1, .ref j1, .int ibc, .int ilc, .int igl, .int ibk, .int ifa, .int ibd])), (r1, .inr (5, [.ref r2, .ref r3, .int vzr, .int vwr, .int vhr, .int vkr])), (r2, .inl (cI, 144, .inl pxr)), (r3, .inl (cI, 9, .inl mdr))] H := hP
        have hD : va_D A [(f0, .inr (8, [.ref a1, .ref c1, .ref r1, .ref y1, .ref k1, .ref j1, .int ibc, .int ilc, .int igl, .int ibk, .int ifa, .int ibd])), (r1, .inr (5, [.ref r2, .ref r3, .int vzr, .int vwr, .int vhr, .int vkr])), (r2, .inl (cI, 144, .inl pxr)), (r3, .inl (cI, 9, .inl mdr))] := hD
        exact W.iret (v := (pxr (y * 12 + x))) hx hb hr (fun t ht hW => ⟨⟨(pxr (y * 12 + x)), [(f0, .inr (8, [.ref a1, .ref c1, .ref r1, .ref y1, .ref k1, .ref j1, .int ibc, .int ilc, .int igl, .int ibk, .int ifa, .int ibd])), (r1, .inr (5, [.ref r2, .ref r3, .int vzr, .int vwr, .int vhr, .int vkr])), (r2, .inl (cI, 144, .inl pxr)), (r3, .inl (cI, 9, .inl mdr))], rfl, ⟨(rfl), (rfl)⟩, by rw [ht]; exact hP, va_K.moved hW.alike hK, hD⟩, hS.F ht⟩) hS.2.2 d_TileForge_get_63
      · have c_45 := cs_b0 c_45
        exact absurd (hasP_in hx12 hy12 hxw hyh) c_45
    · exact absurd c_27 hmd
  · have c_4 := cs_b0 c_4
    exact absurd (by decide) c_4
def y_TileForge_apart : MethodName := ⟨"TileForge", "apart", "(II)D"⟩
def ws_TileForge_apart : List Cond := .code y_TileForge_apart prog_1_method_11_code 5 (some .double) :: GW
theorem mw_524 : (.code ⟨"TileForge", "apart", "(II)D"⟩ prog_1_method_11_code 5 (some .double) : Cond) ∈ GW := List.mem_filter.mpr ⟨(List.mem_append_right _ (List.mem_append_right _ (List.mem_append_right _ (List.mem_append_left _ (List.mem_of_getElem? (i := 170) rfl))))), rfl⟩
theorem hd_TileForge_apart : y_TileForge_apart.cls ≠ "java/lang/invoke/MethodHandle" ∧ y_TileForge_apart.cls ≠ "java/lang/invoke/VarHandle" ∧ (parseMethodDescriptor y_TileForge_apart.desc).map (fun d => d.parameters.length) = some 2 := by decide +kernel
theorem d_TileForge_apart_0 : decode prog_1_method_11_code 0 = .ok (.iload_n 1, 1) := by decide +kernel
theorem d_TileForge_apart_1 : decode prog_1_method_11_code 1 = .ok (.invokestatic 144, 3) := by decide +kernel
theorem d_TileForge_apart_4 : decode prog_1_method_11_code 4 = .ok (.ifCond .eq 10, 3) := by decide +kernel
theorem d_TileForge_apart_7 : decode prog_1_method_11_code 7 = .ok (.iload_n 2, 1) := by decide +kernel
theorem d_TileForge_apart_8 : decode prog_1_method_11_code 8 = .ok (.invokestatic 144, 3) := by decide +kernel
theorem d_TileForge_apart_11 : decode prog_1_method_11_code 11 = .ok (.ifCond .ne 11, 3) := by decide +kernel
theorem d_TileForge_apart_14 : decode prog_1_method_11_code 14 = .ok (.new 51, 3) := by decide +kernel
theorem d_TileForge_apart_17 : decode prog_1_method_11_code 17 = .ok (.dup, 1) := by decide +kernel
theorem d_TileForge_apart_18 : decode prog_1_method_11_code 18 = .ok (.invokespecial 53, 3) := by decide +kernel
theorem d_TileForge_apart_21 : decode prog_1_method_11_code 21 = .ok (.athrow, 1) := by decide +kernel
theorem d_TileForge_apart_22 : decode prog_1_method_11_code 22 = .ok (.aload_n 0, 1) := by decide +kernel
theorem d_TileForge_apart_23 : decode prog_1_method_11_code 23 = .ok (.iload_n 1, 1) := by decide +kernel
theorem d_TileForge_apart_24 : decode prog_1_method_11_code 24 = .ok (.invokevirtual 147, 3) := by decide +kernel
theorem d_TileForge_apart_27 : decode prog_1_method_11_code 27 = .ok (.astore_n 3, 1) := by decide +kernel
theorem d_TileForge_apart_28 : decode prog_1_method_11_code 28 = .ok (.aload_n 0, 1) := by decide +kernel
theorem d_TileForge_apart_29 : decode prog_1_method_11_code 29 = .ok (.iload_n 2, 1) := by decide +kernel
theorem d_TileForge_apart_30 : decode prog_1_method_11_code 30 = .ok (.invokevirtual 147, 3) := by decide +kernel
theorem d_TileForge_apart_33 : decode prog_1_method_11_code 33 = .ok (.astore 4, 2) := by decide +kernel
theorem d_TileForge_apart_35 : decode prog_1_method_11_code 35 = .ok (.aload_n 3, 1) := by decide +kernel
theorem d_TileForge_apart_36 : decode prog_1_method_11_code 36 = .ok (.getfield 151, 3) := by decide +kernel
theorem d_TileForge_apart_39 : decode prog_1_method_11_code 39 = .ok (.ifCond .eq 11, 3) := by decide +kernel
theorem d_TileForge_apart_42 : decode prog_1_method_11_code 42 = .ok (.aload 4, 2) := by decide +kernel
theorem d_TileForge_apart_44 : decode prog_1_method_11_code 44 = .ok (.getfield 151, 3) := by decide +kernel
theorem d_TileForge_apart_47 : decode prog_1_method_11_code 47 = .ok (.ifCond .ne 11, 3) := by decide +kernel
theorem d_TileForge_apart_50 : decode prog_1_method_11_code 50 = .ok (.new 103, 3) := by decide +kernel
theorem d_TileForge_apart_53 : decode prog_1_method_11_code 53 = .ok (.dup, 1) := by decide +kernel
theorem d_TileForge_apart_54 : decode prog_1_method_11_code 54 = .ok (.invokespecial 105, 3) := by decide +kernel
theorem d_TileForge_apart_57 : decode prog_1_method_11_code 57 = .ok (.athrow, 1) := by decide +kernel
theorem d_TileForge_apart_58 : decode prog_1_method_11_code 58 = .ok (.aload_n 3, 1) := by decide +kernel
theorem d_TileForge_apart_59 : decode prog_1_method_11_code 59 = .ok (.getfield 79, 3) := by decide +kernel
theorem d_TileForge_apart_62 : decode prog_1_method_11_code 62 = .ok (.aload 4, 2) := by decide +kernel
theorem d_TileForge_apart_64 : decode prog_1_method_11_code 64 = .ok (.getfield 79, 3) := by decide +kernel
theorem d_TileForge_apart_67 : decode prog_1_method_11_code 67 = .ok (.if_icmp .ne 15, 3) := by decide +kernel
theorem d_TileForge_apart_70 : decode prog_1_method_11_code 70 = .ok (.aload_n 3, 1) := by decide +kernel
theorem d_TileForge_apart_71 : decode prog_1_method_11_code 71 = .ok (.getfield 75, 3) := by decide +kernel
theorem d_TileForge_apart_74 : decode prog_1_method_11_code 74 = .ok (.aload 4, 2) := by decide +kernel
theorem d_TileForge_apart_76 : decode prog_1_method_11_code 76 = .ok (.getfield 75, 3) := by decide +kernel
theorem d_TileForge_apart_79 : decode prog_1_method_11_code 79 = .ok (.if_icmp .eq 11, 3) := by decide +kernel
theorem d_TileForge_apart_82 : decode prog_1_method_11_code 82 = .ok (.new 116, 3) := by decide +kernel
theorem d_TileForge_apart_85 : decode prog_1_method_11_code 85 = .ok (.dup, 1) := by decide +kernel
theorem d_TileForge_apart_86 : decode prog_1_method_11_code 86 = .ok (.invokespecial 118, 3) := by decide +kernel
theorem d_TileForge_apart_89 : decode prog_1_method_11_code 89 = .ok (.athrow, 1) := by decide +kernel
theorem d_TileForge_apart_90 : decode prog_1_method_11_code 90 = .ok (.aload_n 3, 1) := by decide +kernel
theorem d_TileForge_apart_91 : decode prog_1_method_11_code 91 = .ok (.aload 4, 2) := by decide +kernel
theorem d_TileForge_apart_93 : decode prog_1_method_11_code 93 = .ok (.invokestatic 155, 3) := by decide +kernel
theorem d_TileForge_apart_96 : decode prog_1_method_11_code 96 = .ok (.dreturn, 1) := by decide +kernel
theorem mw_525 : (.methodLink "TileForge" 155 ⟨"TileForge", "meanOfSquares", "(LTileForge$Picture;LTileForge$Picture;)D"⟩ : Cond) ∈ GW := List.mem_filter.mpr ⟨(List.mem_append_right _ (List.mem_append_right _ (List.mem_append_right _ (List.mem_append_left _ (List.mem_of_getElem? (i := 171) rfl))))), rfl⟩
theorem mw_526 : (.static ⟨"TileForge", "meanOfSquares", "(LTileForge$Picture;LTileForge$Picture;)D"⟩ : Cond) ∈ GW := List.mem_filter.mpr ⟨(List.mem_append_right _ (List.mem_append_right _ (List.mem_append_right _ (List.mem_append_left _ (List.mem_of_getElem? (i := 172) rfl))))), rfl⟩
def q_tf_apart00 (cI : ClassId) (f0 : Nat) (a1 : Nat) (c1 : Nat) (r1 : Nat) (y1 : Nat) (k1 : Nat) (j1 : Nat) (ibc : Int32) (ilc : Int32) (igl : Int32) (ibk : Int32) (ifa : Int32) (ibd : Int32) (a2 : Nat) (a3 : Nat) (px : Nat → Int32) (md : Nat → Int32) (vz : Int32) (vk : Int32) (pw : Nat) (ph : Nat) : UInt64 → va_W → Prop := fun rr ww => rr = (FP.ddiv (FP.i2d (apY px px pw ph)) (FP.i2d (nI (pw * ph)))) ∧ ww = [(f0, .inr (8, [.ref a1, .ref c1, .ref r1, .ref y1, .ref k1, .ref j1, .int ibc, .int ilc, .int igl, .int ibk, .int ifa, .int ibd])), (a1, .inr (5, [.ref a2, .ref a3, .int vz, .int (nI pw), .int (nI ph), .int vk])), (a2, .inl (cI, 144, .inl px)), (a3, .inl (cI, 9, .inl md))]
set_option maxHeartbeats 4000000 in
set_option maxRecDepth 100000 in
theorem c_tf_apart00 (l : Launch) {D : va_G} {tys : List (ClassId × FieldType)} {cI : ClassId} (hcI : tys[0]? = some (cI, .int)) (f0 : Nat) (a1 : Nat) (c1 : Nat) (r1 : Nat) (y1 : Nat) (k1 : Nat) (j1 : Nat) (ibc : Int32) (ilc : Int32) (igl : Int32) (ibk : Int32) (ifa : Int32) (ibd : Int32) (a2 : Nat) (a3 : Nat) (px : Nat → Int32) (md : Nat → Int32) (vz : Int32) (vk : Int32) (pw : Nat) (ph : Nat) (hm1 : ¬ vz = 0) (hm2 : ¬ vz = 0) (hpw : 0 < pw ∧ pw ≤ 12) (hph : 0 < ph ∧ ph ≤ 12) : CsD l D vwCl tys y_TileForge_apart ws_TileForge_apart ({ frames := 3, cells := 0, slots := 0, locals := 70 } : Room) [.ref f0, .int 0, .int 0] [(f0, .inr (8, [.ref a1, .ref c1, .ref r1, .ref y1, .ref k1, .ref j1, .int ibc, .int ilc, .int igl, .int ibk, .int ifa, .int ibd])), (a1, .inr (5, [.ref a2, .ref a3, .int vz, .int (nI pw), .int (nI ph), .int vk])), (a2, .inl (cI, 144, .inl px)), (a3, .inl (cI, 9, .inl md))] (q_tf_apart00 cI f0 a1 c1 r1 y1 k1 j1 ibc ilc igl ibk ifa ibd a2 a3 px md vz vk pw ph) 0 0 := by
  intro sz
  refine Met.ofW (cc := prog_1_method_11_code) (maxL := 5) (ret := (some .double)) (by decide) rfl ?_
  intro p e s m args below meth c s₁ B hml hv
  obtain ⟨rfl, hsz, hP, hK, hD0, hN⟩ := hv
  have hx := B.exec
  have hb := B.bytes
  have hr := B.returns
  have hts := atoms_spec (ws := ws_TileForge_apart) B.pre
  have hown : s.vm.findClass "TileForge" = some m.cls := findClass_of_methodNamed B.named
  have hlocks := B.notSynchronized
  subst hsz
  have hD := hD0.self (sz := s.heap.size)
  generalize hAe : va_A [(f0, .inr (8, [.ref a1, .ref c1, .ref r1, .ref y1, .ref k1, .ref j1, .int ibc, .int ilc, .int igl, .int ibk, .int ifa, .int ibd])), (a1, .inr (5, [.ref a2, .ref a3, .int vz, .int (nI pw), .int (nI ph), .int vk])), (a2, .inl (cI, 144, .inl px)), (a3, .inl (cI, 9, .inl md))] s.heap.size = A at hD ⊢
  have hA : ∀ q : Nat, s.heap.size ≤ q → A q := fun q h => by rw [← hAe]; exact Or.inr h
  have hS : va_S A s.heap s.heap [] := va_S.rf
  have hP : va_P D vwCl [(f0, .inr (8, [.ref a1, .ref c1, .ref r1, .ref y1, .ref k1, .ref j1, .int ibc, .int ilc, .int igl, .int ibk, .int ifa, .int ibd])), (a1, .inr (5, [.ref a2, .ref a3, .int vz, .int (nI pw), .int (nI ph), .int vk])), (a2, .inl (cI, 144, .inl px)), (a3, .inl (cI, 9, .inl md))] s.heap := hP
  have hl := lv_entry ([.ref f0, .int 0, .int 0]) (n := 5) (Nat.le_of_ble_eq_true rfl)
  rw [lg_entry_eq]
  generalize (lg_sl ([.ref f0, .int 0, .int 0]) ++ List.replicate (5 - (lg_sl ([.ref f0, .int 0, .int 0])).length) Slot.unset).toArray = ls at hl ⊢
  have hl : lv_has ls 5 [(0, .ref f0), (1, .int 0), (2, .int 0)] := hl
  refine lv_iload_n hx hb d_TileForge_apart_0 rfl (lv_at hl 1 rfl) ?_
  refine cs_Si (As := [.int 0]) (rest := []) (wr := [(f0, .inr (8, [.ref a1, .ref c1, .ref r1, .ref y1, .ref k1, .ref j1, .int ibc, .int ilc, .int igl, .int ibk, .int ifa, .int ibd])), (a1, .inr (5, [.ref a2, .ref a3, .int vz, .int (nI pw), .int (nI ph), .int vk])), (a2, .inl (cI, 144, .inl px)), (a3, .inl (cI, 9, .inl md))]) ⟨hx, hb, hml, hown, hts⟩ (c_isChoice l hcI 0) (va_cwS 1 hts (cs_gS mw_518 mw_519 mw_139 mw_77) rfl rfl rfl hd_TileForge_isChoice ⟨Nat.le_of_ble_eq_true rfl, Nat.le_of_ble_eq_true rfl⟩) hN hK hP hD hS hA [] [0, 1, 2, 3] rfl rfl rfl rfl (by decide) rfl rfl hl.1 (Nat.le_of_ble_eq_true rfl) d_TileForge_apart_1 ⟨Nat.le_of_ble_eq_true rfl, Nat.le_of_ble_eq_true rfl⟩ (fun r1 w1 H locs hw hP hD hS => ?_)
  obtain ⟨rfl, rfl⟩ := hw
  have hP : va_P D vwCl [(f0, .inr (8, [.ref a1, .ref c1, .ref r1, .ref y1, .ref k1, .ref j1, .int ibc, .int ilc, .int igl, .int ibk, .int ifa, .int ibd])), (a1, .inr (5, [.ref a2, .ref a3, .int vz, .int (nI pw), .int (nI ph), .int vk])), (a2, .inl (cI, 144, .inl px)), (a3, .inl (cI, 9, .inl md))] H := hP
  have hD : va_D A [(f0, .inr (8, [.ref a1, .ref c1, .ref r1, .ref y1, .ref k1, .ref j1, .int ibc, .int ilc, .int igl, .int ibk, .int ifa, .int ibd])), (a1, .inr (5, [.ref a2, .ref a3, .int vz, .int (nI pw), .int (nI ph), .int vk])), (a2, .inl (cI, 144, .inl px)), (a3, .inl (cI, 9, .inl md))] := hD
  refine lv_if_eq (tgt := 14) hx hb d_TileForge_apart_4 (by decide) (fun c_4 => ?_) (fun c_4 => ?_)
  · have c_4 := cs_b0 c_4
    exact absurd (by decide) c_4
  · have c_4 := cs_b1 c_4
    refine lv_iload_n hx hb d_TileForge_apart_7 rfl (lv_at hl 2 rfl) ?_
    refine cs_Si (As := [.int 0]) (rest := []) (wr := [(f0, .inr (8, [.ref a1, .ref c1, .ref r1, .ref y1, .ref k1, .ref j1, .int ibc, .int ilc, .int igl, .int ibk, .int ifa, .int ibd])), (a1, .inr (5, [.ref a2, .ref a3, .int vz, .int (nI pw), .int (nI ph), .int vk])), (a2, .inl (cI, 144, .inl px)), (a3, .inl (cI, 9, .inl md))]) ⟨hx, hb, hml, hown, hts⟩ (c_isChoice l hcI 0) (va_cwS 1 hts (cs_gS mw_518 mw_519 mw_139 mw_77) rfl rfl rfl hd_TileForge_isChoice ⟨Nat.le_of_ble_eq_true rfl, Nat.le_of_ble_eq_true rfl⟩) hN hK hP hD hS hA [] [0, 1, 2, 3] rfl rfl rfl rfl (by decide) rfl rfl hl.1 (Nat.le_of_ble_eq_true rfl) d_TileForge_apart_8 ⟨Nat.le_of_ble_eq_true rfl, Nat.le_of_ble_eq_true rfl⟩ (fun r2 w1 H locs hw hP hD hS => ?_)
    obtain ⟨rfl, rfl⟩ := hw
    have hP : va_P D vwCl [(f0, .inr (8, [.ref a1, .ref c1, .ref r1, .ref y1, .ref k1, .ref j1, .int ibc, .int ilc, .int igl, .int ibk, .int ifa, .int ibd])), (a1, .inr (5, [.ref a2, .ref a3, .int vz, .int (nI pw), .int (nI ph), .int vk])), (a2, .inl (cI, 144, .inl px)), (a3, .inl (cI, 9, .inl md))] H := hP
    have hD : va_D A [(f0, .inr (8, [.ref a1, .ref c1, .ref r1, .ref y1, .ref k1, .ref j1, .int ibc, .int ilc, .int igl, .int ibk, .int ifa, .int ibd])), (a1, .inr (5, [.ref a2, .ref a3, .int vz, .int (nI pw), .int (nI ph), .int vk])), (a2, .inl (cI, 144, .inl px)), (a3, .inl (cI, 9, .inl md))] := hD
    refine lv_if_ne (tgt := 22) hx hb d_TileForge_apart_11 (by decide) (fun c_11 => ?_) (fun c_11 => ?_)
    · have c_11 := cs_b1 c_11
      refine lv_aload_n hx hb d_TileForge_apart_22 rfl (lv_at hl 0 rfl) ?_
      refine lv_iload_n hx hb d_TileForge_apart_23 rfl (lv_at hl 1 rfl) ?_
      refine cs_Vr (As := [.int 0]) (rest := []) (wr := [(a1, .inr (5, [.ref a2, .ref a3, .int vz, .int (nI pw), .int (nI ph), .int vk])), (a2, .inl (cI, 144, .inl px)), (a3, .inl (cI, 9, .inl md))]) ⟨hx, hb, hml, hown, hts⟩ (c_tf_choose0 l hcI f0 a1 c1 r1 y1 k1 j1 ibc ilc igl ibk ifa ibd) (cwV 1 hts (cs_gV mw_520 mw_521 mw_522 mw_139 mw_472) rfl rfl rfl ⟨rfl, hd_TileForge_choose⟩ ⟨Nat.le_of_ble_eq_true rfl, Nat.le_of_ble_eq_true rfl⟩) hN hK hP hD hS hA [0] [1, 2, 3] rfl rfl rfl rfl (by decide) (ci := 8) rfl rfl rfl rfl rfl hl.1 (Nat.le_of_ble_eq_true rfl) d_TileForge_apart_24 ⟨Nat.le_of_ble_eq_true rfl, Nat.le_of_ble_eq_true rfl⟩ (fun r3 w1 H locs hw hP hD hS => ?_)
      obtain ⟨hrr, rfl⟩ := hw
      have hrr := hrr.symm
      subst hrr
      have hP : va_P D vwCl [(a1, .inr (5, [.ref a2, .ref a3, .int vz, .int (nI pw), .int (nI ph), .int vk])), (a2, .inl (cI, 144, .inl px)), (a3, .inl (cI, 9, .inl md)), (f0, .inr (8, [.ref a1, .ref c1, .ref r1, .ref y1, .ref k1, .ref j1, .int ibc, .int ilc, .int igl, .int ibk, .int ifa, .int ibd]))] H := hP
      have hD : va_D A [(a1, .inr (5, [.ref a2, .ref a3, .int vz, .int (nI pw), .int (nI ph), .int vk])), (a2, .inl (cI, 144, .inl px)), (a3, .inl (cI, 9, .inl md)), (f0, .inr (8, [.ref a1, .ref c1, .ref r1, .ref y1, .ref k1, .ref j1, .int ibc, .int ilc, .int igl, .int ibk, .int ifa, .int ibd]))] := hD
      refine lv_astore_n (lv' := [(3, .ref a1), (0, .ref f0), (1, .int 0), (2, .int 0)]) hx hb d_TileForge_apart_27 rfl hl (by decide) rfl (fun ls hl => ?_)
      refine lv_aload_n hx hb d_TileForge_apart_28 rfl (lv_at hl 1 rfl) ?_
      refine lv_iload_n hx hb d_TileForge_apart_29 rfl (lv_at hl 3 rfl) ?_
      refine cs_Vr (As := [.int 0]) (rest := []) (wr := [(a1, .inr (5, [.ref a2, .ref a3, .int vz, .int (nI pw), .int (nI ph), .int vk])), (a2, .inl (cI, 144, .inl px)), (a3, .inl (cI, 9, .inl md))]) ⟨hx, hb, hml, hown, hts⟩ (c_tf_choose0 l hcI f0 a1 c1 r1 y1 k1 j1 ibc ilc igl ibk ifa ibd) (cwV 1 hts (cs_gV mw_520 mw_521 mw_522 mw_139 mw_472) rfl rfl rfl ⟨rfl, hd_TileForge_choose⟩ ⟨Nat.le_of_ble_eq_true rfl, Nat.le_of_ble_eq_true rfl⟩) hN hK hP hD hS hA [3] [0, 1, 2] rfl rfl rfl rfl (by decide) (ci := 8) rfl rfl rfl rfl rfl hl.1 (Nat.le_of_ble_eq_true rfl) d_TileForge_apart_30 ⟨Nat.le_of_ble_eq_true rfl, Nat.le_of_ble_eq_true rfl⟩ (fun r4 w1 H locs hw hP hD hS => ?_)
      obtain ⟨hrr, rfl⟩ := hw
      have hrr := hrr.symm
      subst hrr
      have hP : va_P D vwCl [(a1, .inr (5, [.ref a2, .ref a3, .int vz, .int (nI pw), .int (nI ph), .int vk])), (a2, .inl (cI, 144, .inl px)), (a3, .inl (cI, 9, .inl md)), (f0, .inr (8, [.ref a1, .ref c1, .ref r1, .ref y1, .ref k1, .ref j1, .int ibc, .int ilc, .int igl, .int ibk, .int ifa, .int ibd]))] H := hP
      have hD : va_D A [(a1, .inr (5, [.ref a2, .ref a3, .int vz, .int (nI pw), .int (nI ph), .int vk])), (a2, .inl (cI, 144, .inl px)), (a3, .inl (cI, 9, .inl md)), (f0, .inr (8, [.ref a1, .ref c1, .ref r1, .ref y1, .ref k1, .ref j1, .int ibc, .int ilc, .int igl, .int ibk, .int ifa, .int ibd]))] := hD
      refine lv_astore (lv' := [(4, .ref a1), (3, .ref a1), (0, .ref f0), (1, .int 0), (2, .int 0)]) hx hb d_TileForge_apart_33 hl (by decide) rfl (fun ls hl => ?_)
      refine lv_aload_n hx hb d_TileForge_apart_35 rfl (lv_at hl 1 rfl) ?_
      refine va_get (D := D) (ci := 5) (v := .int vz) (C := "TileForge$Picture") (T := T_Picture) (N := 6) hx hb hts (cs_in in_Picture) hown hK hP 0 rfl rfl 2 (by decide) (hts _ (cs_m mw_523)) (fun _ h9 => h9) rfl d_TileForge_apart_36 ?_
      refine lv_if_eq (tgt := 50) hx hb d_TileForge_apart_39 (by decide) (fun c_39 => ?_) (fun c_39 => ?_)
      · exact absurd c_39 hm1
      · refine lv_aload hx hb d_TileForge_apart_42 (lv_at hl 0 rfl) ?_
        refine va_get (D := D) (ci := 5) (v := .int vz) (C := "TileForge$Picture") (T := T_Picture) (N := 6) hx hb hts (cs_in in_Picture) hown hK hP 0 rfl rfl 2 (by decide) (hts _ (cs_m mw_523)) (fun _ h9 => h9) rfl d_TileForge_apart_44 ?_
        refine lv_if_ne (tgt := 58) hx hb d_TileForge_apart_47 (by decide) (fun c_47 => ?_) (fun c_47 => ?_)
        · refine lv_aload_n hx hb d_TileForge_apart_58 rfl (lv_at hl 1 rfl) ?_
          refine va_get (D := D) (ci := 5) (v := .int (nI pw)) (C := "TileForge$Picture") (T := T_Picture) (N := 6) hx hb hts (cs_in in_Picture) hown hK hP 0 rfl rfl 3 (by decide) (hts _ (cs_m mw_478)) (fun _ h9 => h9) rfl d_TileForge_apart_59 ?_
          refine lv_aload hx hb d_TileForge_apart_62 (lv_at hl 0 rfl) ?_
          refine va_get (D := D) (ci := 5) (v := .int (nI pw)) (C := "TileForge$Picture") (T := T_Picture) (N := 6) hx hb hts (cs_in in_Picture) hown hK hP 0 rfl rfl 3 (by decide) (hts _ (cs_m mw_478)) (fun _ h9 => h9) rfl d_TileForge_apart_64 ?_
          refine lv_icmp_ne (tgt := 82) hx hb d_TileForge_apart_67 (by decide) (fun c_67 => ?_) (fun c_67 => ?_)
          · exact absurd rfl c_67
          · refine lv_aload_n hx hb d_TileForge_apart_70 rfl (lv_at hl 1 rfl) ?_
            refine va_get (D := D) (ci := 5) (v := .int (nI ph)) (C := "TileForge$Picture") (T := T_Picture) (N := 6) hx hb hts (cs_in in_Picture) hown hK hP 0 rfl rfl 4 (by decide) (hts _ (cs_m mw_477)) (fun _ h9 => h9) rfl d_TileForge_apart_71 ?_
            refine lv_aload hx hb d_TileForge_apart_74 (lv_at hl 0 rfl) ?_
            refine va_get (D := D) (ci := 5) (v := .int (nI ph)) (C := "TileForge$Picture") (T := T_Picture) (N := 6) hx hb hts (cs_in in_Picture) hown hK hP 0 rfl rfl 4 (by decide) (hts _ (cs_m mw_477)) (fun _ h9 => h9) rfl d_TileForge_apart_76 ?_
            refine lv_icmp_eq (tgt := 90) hx hb d_TileForge_apart_79 (by decide) (fun c_79 => ?_) (fun c_79 => ?_)
            · refine lv_aload_n hx hb d_TileForge_apart_90 rfl (lv_at hl 1 rfl) ?_
              refine lv_aload hx hb d_TileForge_apart_91 (lv_at hl 0 rfl) ?_
              refine cs_Sd (As := [.ref a1, .ref a1]) (rest := []) (wr := [(f0, .inr (8, [.ref a1, .ref c1, .ref r1, .ref y1, .ref k1, .ref j1, .int ibc, .int ilc, .int igl, .int ibk, .int ifa, .int ibd]))]) ⟨hx, hb, hml, hown, hts⟩ (c_tf_mos1 l hcI a1 a2 a3 px md vz vk pw ph (hpw) (hph)) (va_cwS 2 hts (cs_gS mw_525 mw_526 mw_139 mw_476) rfl rfl rfl hd_TileForge_meanOfSquares ⟨Nat.le_of_ble_eq_true rfl, Nat.le_of_ble_eq_true rfl⟩) hN hK hP hD hS hA [0, 1, 2] [3] rfl rfl rfl rfl (by decide) rfl rfl hl.1 (Nat.le_of_ble_eq_true rfl) d_TileForge_apart_93 ⟨Nat.le_of_ble_eq_true rfl, Nat.le_of_ble_eq_true rfl⟩ (fun r5 w1 H locs hw hP hD hS => ?_)
              obtain ⟨rfl, rfl⟩ := hw
              have hP : va_P D vwCl [(f0, .inr (8, [.ref a1, .ref c1, .ref r1, .ref y1, .ref k1, .ref j1, .int ibc, .int ilc, .int igl, .int ibk, .int ifa, .int ibd])), (a1, .inr (5, [.ref a2, .ref a3, .int vz, .int (nI pw), .int (nI ph), .int vk])), (a2, .inl (cI, 144, .inl px)), (a3, .inl (cI, 9, .inl md))] H := hP
              have hD : va_D A [(f0, .inr (8, [.ref a1, .ref c1, .ref r1, .ref y1, .ref k1, .ref j1, .int ibc, .int ilc, .int igl, .int ibk, .int ifa, .int ibd])), (a1, .inr (5, [.ref a2, .ref a3, .int vz, .int (nI pw), .int (nI ph), .int vk])), (a2, .inl (cI, 144, .inl px)), (a3, .inl (cI, 9, .inl md))] := hD
              exact W.dret (v := (FP.ddiv (FP.i2d (apY px px pw ph)) (FP.i2d (nI (pw * ph))))) hx hb hr (fun t ht hW => ⟨⟨(FP.ddiv (FP.i2d (apY px px pw ph)) (FP.i2d (nI (pw * ph)))), [(f0, .inr (8, [.ref a1, .ref c1, .ref r1, .ref y1, .ref k1, .ref j1, .int ibc, .int ilc, .int igl, .int ibk, .int ifa, .int ibd])), (a1, .inr (5, [.ref a2, .ref a3, .int vz, .int (nI pw), .int (nI ph), .int vk])), (a2, .inl (cI, 144, .inl px)), (a3, .inl (cI, 9, .inl md))], rfl, ⟨(rfl), (rfl)⟩, by rw [ht]; exact hP, va_K.moved hW.alike hK, hD⟩, hS.F ht⟩) hS.2.2 d_TileForge_apart_96
            · exact absurd rfl c_79
        · exact absurd c_47 hm2
    · have c_11 := cs_b0 c_11
      exact absurd (by decide) c_11
def q_tf_apart01 (cI : ClassId) (f0 : Nat) (a1 : Nat) (c1 : Nat) (r1 : Nat) (y1 : Nat) (k1 : Nat) (j1 : Nat) (ibc : Int32) (ilc : Int32) (igl : Int32) (ibk : Int32) (ifa : Int32) (ibd : Int32) (a2 : Nat) (a3 : Nat) (px : Nat → Int32) (md : Nat → Int32) (vz : Int32) (vk : Int32) (c2 : Nat) (c3 : Nat) (pxc : Nat → Int32) (mdc : Nat → Int32) (vzc : Int32) (vkc : Int32) (pw : Nat) (ph : Nat) : UInt64 → va_W → Prop := fun rr ww => rr = (FP.ddiv (FP.i2d (apY px pxc pw ph)) (FP.i2d (nI (pw * ph)))) ∧ ww = [(f0, .inr (8, [.ref a1, .ref c1, .ref r1, .ref y1, .ref k1, .ref j1, .int ibc, .int ilc, .int igl, .int ibk, .int ifa, .int ibd])), (a1, .inr (5, [.ref a2, .ref a3, .int vz, .int (nI pw), .int (nI ph), .int vk])), (a2, .inl (cI, 144, .inl px)), (a3, .inl (cI, 9, .inl md)), (c1, .inr (5, [.ref c2, .ref c3, .int vzc, .int (nI pw), .int (nI ph), .int vkc])), (c2, .inl (cI, 144, .inl pxc)), (c3, .inl (cI, 9, .inl mdc))]
set_option maxHeartbeats 4000000 in
set_option maxRecDepth 100000 in
theorem c_tf_apart01 (l : Launch) {D : va_G} {tys : List (ClassId × FieldType)} {cI : ClassId} (hcI : tys[0]? = some (cI, .int)) (f0 : Nat) (a1 : Nat) (c1 : Nat) (r1 : Nat) (y1 : Nat) (k1 : Nat) (j1 : Nat) (ibc : Int32) (ilc : Int32) (igl : Int32) (ibk : Int32) (ifa : Int32) (ibd : Int32) (a2 : Nat) (a3 : Nat) (px : Nat → Int32) (md : Nat → Int32) (vz : Int32) (vk : Int32) (c2 : Nat) (c3 : Nat) (pxc : Nat → Int32) (mdc : Nat → Int32) (vzc : Int32) (vkc : Int32) (pw : Nat) (ph : Nat) (hm1 : ¬ vz = 0) (hm2 : ¬ vzc = 0) (hpw : 0 < pw ∧ pw ≤ 12) (hph : 0 < ph ∧ ph ≤ 12) : CsD l D vwCl tys y_TileForge_apart ws_TileForge_apart ({ frames := 3, cells := 0, slots := 0, locals := 70 } : Room) [.ref f0, .int 0, .int 1] [(f0, .inr (8, [.ref a1, .ref c1, .ref r1, .ref y1, .ref k1, .ref j1, .int ibc, .int ilc, .int igl, .int ibk, .int ifa, .int ibd])), (a1, .inr (5, [.ref a2, .ref a3, .int vz, .int (nI pw), .int (nI ph), .int vk])), (a2, .inl (cI, 144, .inl px)), (a3, .inl (cI, 9, .inl md)), (c1, .inr (5, [.ref c2, .ref c3, .int vzc, .int (nI pw), .int (nI ph), .int vkc])), (c2, .inl (cI, 144, .inl pxc)), (c3, .inl (cI, 9, .inl mdc))] (q_tf_apart01 cI f0 a1 c1 r1 y1 k1 j1 ibc ilc igl ibk ifa ibd a2 a3 px md vz vk c2 c3 pxc mdc vzc vkc pw ph) 0 0 := by
  intro sz
  refine Met.ofW (cc := prog_1_method_11_code) (maxL := 5) (ret := (some .double)) (by decide) rfl ?_
  intro p e s m args below meth c s₁ B hml hv
  obtain ⟨rfl, hsz, hP, hK, hD0, hN⟩ := hv
  have hx := B.exec
  have hb := B.bytes
  have hr := B.returns
  have hts := atoms_spec (ws := ws_TileForge_apart) B.pre
  have hown : s.vm.findClass "TileForge" = some m.cls := findClass_of_methodNamed B.named
  have hlocks := B.notSynchronized
  subst hsz
  have hD := hD0.self (sz := s.heap.size)
  generalize hAe : va_A [(f0, .inr (8, [.ref a1, .ref c1, .ref r1, .ref y1, .ref k1, .ref j1, .int ibc, .int ilc, .int igl, .int ibk, .int ifa, .int ibd])), (a1, .inr (5, [.ref a2, .ref a3, .int vz, .int (nI pw), .int (nI ph), .int vk])), (a2, .inl (cI, 144, .inl px)), (a3, .inl (cI, 9, .inl md)), (c1, .inr (5, [.ref c2, .ref c3, .int vzc, .int (nI pw), .int (nI ph), .int vkc])), (c2, .inl (cI, 144, .inl pxc)), (c3, .inl (cI, 9, .inl mdc))] s.heap.size = A at hD ⊢
  have hA : ∀ q : Nat, s.heap.size ≤ q → A q := fun q h => by rw [← hAe]; exact Or.inr h
  have hS : va_S A s.heap s.heap [] := va_S.rf
  have hP : va_P D vwCl [(f0, .inr (8, [.ref a1, .ref c1, .ref r1, .ref y1, .ref k1, .ref j1, .int ibc, .int ilc, .int igl, .int ibk, .int ifa, .int ibd])), (a1, .inr (5, [.ref a2, .ref a3, .int vz, .int (nI pw), .int (nI ph), .int vk])), (a2, .inl (cI, 144, .inl px)), (a3, .inl (cI, 9, .inl md)), (c1, .inr (5, [.ref c2, .ref c3, .int vzc, .int (nI pw), .int (nI ph), .int vkc])), (c2, .inl (cI, 144, .inl pxc)), (c3, .inl (cI, 9, .inl mdc))] s.heap := hP
  have hl := lv_entry ([.ref f0, .int 0, .int 1]) (n := 5) (Nat.le_of_ble_eq_true rfl)
  rw [lg_entry_eq]
  generalize (lg_sl ([.ref f0, .int 0, .int 1]) ++ List.replicate (5 - (lg_sl ([.ref f0, .int 0, .int 1])).length) Slot.unset).toArray = ls at hl ⊢
  have hl : lv_has ls 5 [(0, .ref f0), (1, .int 0), (2, .int 1)] := hl
  refine lv_iload_n hx hb d_TileForge_apart_0 rfl (lv_at hl 1 rfl) ?_
  refine cs_Si (As := [.int 0]) (rest := []) (wr := [(f0, .inr (8, [.ref a1, .ref c1, .ref r1, .ref y1, .ref k1, .ref j1, .int ibc, .int ilc, .int igl, .int ibk, .int ifa, .int ibd])), (a1, .inr (5, [.ref a2, .ref a3, .int vz, .int (nI pw), .int (nI ph), .int vk])), (a2, .inl (cI, 144, .inl px)), (a3, .inl (cI, 9, .inl md)), (c1, .inr (5, [.ref c2, .ref c3, .int vzc, .int (nI pw), .int (nI ph), .int vkc])), (c2, .inl (cI, 144, .inl pxc)), (c3, .inl (cI, 9, .inl mdc))]) ⟨hx, hb, hml, hown, hts⟩ (c_isChoice l hcI 0) (va_cwS 1 hts (cs_gS mw_518 mw_519 mw_139 mw_77) rfl rfl rfl hd_TileForge_isChoice ⟨Nat.le_of_ble_eq_true rfl, Nat.le_of_ble_eq_true rfl⟩) hN hK hP hD hS hA [] [0, 1, 2, 3, 4, 5, 6] rfl rfl rfl rfl (by decide) rfl rfl hl.1 (Nat.le_of_ble_eq_true rfl) d_TileForge_apart_1 ⟨Nat.le_of_ble_eq_true rfl, Nat.le_of_ble_eq_true rfl⟩ (fun r1 w1 H locs hw hP hD hS => ?_)
  obtain ⟨rfl, rfl⟩ := hw
  have hP : va_P D vwCl [(f0, .inr (8, [.ref a1, .ref c1, .ref r1, .ref y1, .ref k1, .ref j1, .int ibc, .int ilc, .int igl, .int ibk, .int ifa, .int ibd])), (a1, .inr (5, [.ref a2, .ref a3, .int vz, .int (nI pw), .int (nI ph), .int vk])), (a2, .inl (cI, 144, .inl px)), (a3, .inl (cI, 9, .inl md)), (c1, .inr (5, [.ref c2, .ref c3, .int vzc, .int (nI pw), .int (nI ph), .int vkc])), (c2, .inl (cI, 144, .inl pxc)), (c3, .inl (cI, 9, .inl mdc))] H := hP
  have hD : va_D A [(f0, .inr (8, [.ref a1, .ref c1, .ref r1, .ref y1, .ref k1, .ref j1, .int ibc, .int ilc, .int igl, .int ibk, .int ifa, .int ibd])), (a1, .inr (5, [.ref a2, .ref a3, .int vz, .int (nI pw), .int (nI ph), .int vk])), (a2, .inl (cI, 144, .inl px)), (a3, .inl (cI, 9, .inl md)), (c1, .inr (5, [.ref c2, .ref c3, .int vzc, .int (nI pw), .int (nI ph), .int vkc])), (c2, .inl (cI, 144, .inl pxc)), (c3, .inl (cI, 9, .inl mdc))] := hD
  refine lv_if_eq (tgt := 14) hx hb d_TileForge_apart_4 (by decide) (fun c_4 => ?_) (fun c_4 => ?_)
  · have c_4 := cs_b0 c_4
    exact absurd (by decide) c_4
  · have c_4 := cs_b1 c_4
    refine lv_iload_n hx hb d_TileForge_apart_7 rfl (lv_at hl 2 rfl) ?_
    refine cs_Si (As := [.int 1]) (rest := []) (wr := [(f0, .inr (8, [.ref a1, .ref c1, .ref r1, .ref y1, .ref k1, .ref j1, .int ibc, .int ilc, .int igl, .int ibk, .int ifa, .int ibd])), (a1, .inr (5, [.ref a2, .ref a3, .int vz, .int (nI pw), .int (nI ph), .int vk])), (a2, .inl (cI, 144, .inl px)), (a3, .inl (cI, 9, .inl md)), (c1, .inr (5, [.ref c2, .ref c3, .int vzc, .int (nI pw), .int (nI ph), .int vkc])), (c2, .inl (cI, 144, .inl pxc)), (c3, .inl (cI, 9, .inl mdc))]) ⟨hx, hb, hml, hown, hts⟩ (c_isChoice l hcI 1) (va_cwS 1 hts (cs_gS mw_518 mw_519 mw_139 mw_77) rfl rfl rfl hd_TileForge_isChoice ⟨Nat.le_of_ble_eq_true rfl, Nat.le_of_ble_eq_true rfl⟩) hN hK hP hD hS hA [] [0, 1, 2, 3, 4, 5, 6] rfl rfl rfl rfl (by decide) rfl rfl hl.1 (Nat.le_of_ble_eq_true rfl) d_TileForge_apart_8 ⟨Nat.le_of_ble_eq_true rfl, Nat.le_of_ble_eq_true rfl⟩ (fun r2 w1 H locs hw hP hD hS => ?_)
    obtain ⟨rfl, rfl⟩ := hw
    have hP : va_P D vwCl [(f0, .inr (8, [.ref a1, .ref c1, .ref r1, .ref y1, .ref k1, .ref j1, .int ibc, .int ilc, .int igl, .int ibk, .int ifa, .int ibd])), (a1, .inr (5, [.ref a2, .ref a3, .int vz, .int (nI pw), .int (nI ph), .int vk])), (a2, .inl (cI, 144, .inl px)), (a3, .inl (cI, 9, .inl md)), (c1, .inr (5, [.ref c2, .ref c3, .int vzc, .int (nI pw), .int (nI ph), .int vkc])), (c2, .inl (cI, 144, .inl pxc)), (c3, .inl (cI, 9, .inl mdc))] H := hP
    have hD : va_D A [(f0, .inr (8, [.ref a1, .ref c1, .ref r1, .ref y1, .ref k1, .ref j1, .int ibc, .int ilc, .int igl, .int ibk, .int ifa, .int ibd])), (a1, .inr (5, [.ref a2, .ref a3, .int vz, .int (nI pw), .int (nI ph), .int vk])), (a2, .inl (cI, 144, .inl px)), (a3, .inl (cI, 9, .inl md)), (c1, .inr (5, [.ref c2, .ref c3, .int vzc, .int (nI pw), .int (nI ph), .int vkc])), (c2, .inl (cI, 144, .inl pxc)), (c3, .inl (cI, 9, .inl mdc))] := hD
    refine lv_if_ne (tgt := 22) hx hb d_TileForge_apart_11 (by decide) (fun c_11 => ?_) (fun c_11 => ?_)
    · have c_11 := cs_b1 c_11
      refine lv_aload_n hx hb d_TileForge_apart_22 rfl (lv_at hl 0 rfl) ?_
      refine lv_iload_n hx hb d_TileForge_apart_23 rfl (lv_at hl 1 rfl) ?_
      refine cs_Vr (As := [.int 0]) (rest := []) (wr := [(a1, .inr (5, [.ref a2, .ref a3, .int vz, .int (nI pw), .int (nI ph), .int vk])), (a2, .inl (cI, 144, .inl px)), (a3, .inl (cI, 9, .inl md)), (c1, .inr (5, [.ref c2, .ref c3, .int vzc, .int (nI pw), .int (nI ph), .int vkc])), (c2, .inl (cI, 144, .inl pxc)), (c3, .inl (cI, 9, .inl mdc))]) ⟨hx, hb, hml, hown, hts⟩ (c_tf_choose0 l hcI f0 a1 c1 r1 y1 k1 j1 ibc ilc igl ibk ifa ibd) (cwV 1 hts (cs_gV mw_520 mw_521 mw_522 mw_139 mw_472) rfl rfl rfl ⟨rfl, hd_TileForge_choose⟩ ⟨Nat.le_of_ble_eq_true rfl, Nat.le_of_ble_eq_true rfl⟩) hN hK hP hD hS hA [0] [1, 2, 3, 4, 5, 6] rfl rfl rfl rfl (by decide) (ci := 8) rfl rfl rfl rfl rfl hl.1 (Nat.le_of_ble_eq_true rfl) d_TileForge_apart_24 ⟨Nat.le_of_ble_eq_true rfl, Nat.le_of_ble_eq_true rfl⟩ (fun r3 w1 H locs hw hP hD hS => ?_)
      obtain ⟨hrr, rfl⟩ := hw
      have hrr := hrr.symm
      subst hrr
      have hP : va_P D vwCl [(a1, .inr (5, [.ref a2, .ref a3, .int vz, .int (nI pw), .int (nI ph), .int vk])), (a2, .inl (cI, 144, .inl px)), (a3, .inl (cI, 9, .inl md)), (c1, .inr (5, [.ref c2, .ref c3, .int vzc, .int (nI pw), .int (nI ph), .int vkc])), (c2, .inl (cI, 144, .inl pxc)), (c3, .inl (cI, 9, .inl mdc)), (f0, .inr (8, [.ref a1, .ref c1, .ref r1, .ref y1, .ref k1, .ref j1, .int ibc, .int ilc, .int igl, .int ibk, .int ifa, .int ibd]))] H := hP
      have hD : va_D A [(a1, .inr (5, [.ref a2, .ref a3, .int vz, .int (nI pw), .int (nI ph), .int vk])), (a2, .inl (cI, 144, .inl px)), (a3, .inl (cI, 9, .inl md)), (c1, .inr (5, [.ref c2, .ref c3, .int vzc, .int (nI pw), .int (nI ph), .int vkc])), (c2, .inl (cI, 144, .inl pxc)), (c3, .inl (cI, 9, .inl mdc)), (f0, .inr (8, [.ref a1, .ref c1, .ref r1, .ref y1, .ref k1, .ref j1, .int ibc, .int ilc, .int igl, .int ibk, .int ifa, .int ibd]))] := hD
      refine lv_astore_n (lv' := [(3, .ref a1), (0, .ref f0), (1, .int 0), (2, .int 1)]) hx hb d_TileForge_apart_27 rfl hl (by decide) rfl (fun ls hl => ?_)
      refine lv_aload_n hx hb d_TileForge_apart_28 rfl (lv_at hl 1 rfl) ?_
      refine lv_iload_n hx hb d_TileForge_apart_29 rfl (lv_at hl 3 rfl) ?_
      refine cs_Vr (As := [.int 1]) (rest := []) (wr := [(a1, .inr (5, [.ref a2, .ref a3, .int vz, .int (nI pw), .int (nI ph), .int vk])), (a2, .inl (cI, 144, .inl px)), (a3, .inl (cI, 9, .inl md)), (c1, .inr (5, [.ref c2, .ref c3, .int vzc, .int (nI pw), .int (nI ph), .int vkc])), (c2, .inl (cI, 144, .inl pxc)), (c3, .inl (cI, 9, .inl mdc))]) ⟨hx, hb, hml, hown, hts⟩ (c_tf_choose1 l hcI f0 a1 c1 r1 y1 k1 j1 ibc ilc igl ibk ifa ibd) (cwV 1 hts (cs_gV mw_520 mw_521 mw_522 mw_139 mw_472) rfl rfl rfl ⟨rfl, hd_TileForge_choose⟩ ⟨Nat.le_of_ble_eq_true rfl, Nat.le_of_ble_eq_true rfl⟩) hN hK hP hD hS hA [6] [0, 1, 2, 3, 4, 5] rfl rfl rfl rfl (by decide) (ci := 8) rfl rfl rfl rfl rfl hl.1 (Nat.le_of_ble_eq_true rfl) d_TileForge_apart_30 ⟨Nat.le_of_ble_eq_true rfl, Nat.le_of_ble_eq_true rfl⟩ (fun r4 w1 H locs hw hP hD hS => ?_)
      obtain ⟨hrr, rfl⟩ := hw
      have hrr := hrr.symm
      subst hrr
      have hP : va_P D vwCl [(a1, .inr (5, [.ref a2, .ref a3, .int vz, .int (nI pw), .int (nI ph), .int vk])), (a2, .inl (cI, 144, .inl px)), (a3, .inl (cI, 9, .inl md)), (c1, .inr (5, [.ref c2, .ref c3, .int vzc, .int (nI pw), .int (nI ph), .int vkc])), (c2, .inl (cI, 144, .inl pxc)), (c3, .inl (cI, 9, .inl mdc)), (f0, .inr (8, [.ref a1, .ref c1, .ref r1, .ref y1, .ref k1, .ref j1, .int ibc, .int ilc, .int igl, .int ibk, .int ifa, .int ibd]))] H := hP
      have hD : va_D A [(a1, .inr (5, [.ref a2, .ref a3, .int vz, .int (nI pw), .int (nI ph), .int vk])), (a2, .inl (cI, 144, .inl px)), (a3, .inl (cI, 9, .inl md)), (c1, .inr (5, [.ref c2, .ref c3, .int vzc, .int (nI pw), .int (nI ph), .int vkc])), (c2, .inl (cI, 144, .inl pxc)), (c3, .inl (cI, 9, .inl mdc)), (f0, .inr (8, [.ref a1, .ref c1, .ref r1, .ref y1, .ref k1, .ref j1, .int ibc, .int ilc, .int igl, .int ibk, .int ifa, .int ibd]))] := hD
      refine lv_astore (lv' := [(4, .ref c1), (3, .ref a1), (0, .ref f0), (1, .int 0), (2, .int 1)]) hx hb d_TileForge_apart_33 hl (by decide) rfl (fun ls hl => ?_)
      refine lv_aload_n hx hb d_TileForge_apart_35 rfl (lv_at hl 1 rfl) ?_
      refine va_get (D := D) (ci := 5) (v := .int vz) (C := "TileForge$Picture") (T := T_Picture) (N := 6) hx hb hts (cs_in in_Picture) hown hK hP 0 rfl rfl 2 (by decide) (hts _ (cs_m mw_523)) (fun _ h9 => h9) rfl d_TileForge_apart_36 ?_
      refine lv_if_eq (tgt := 50) hx hb d_TileForge_apart_39 (by decide) (fun c_39 => ?_) (fun c_39 => ?_)
      · exact absurd c_39 hm1
      · refine lv_aload hx hb d_TileForge_apart_42 (lv_at hl 0 rfl) ?_
        refine va_get (D := D) (ci := 5) (v := .int vzc) (C := "TileForge$Picture") (T := T_Picture) (N := 6) hx hb hts (cs_in in_Picture) hown hK hP 3 rfl rfl 2 (by decide) (hts _ (cs_m mw_523)) (fun _ h9 => h9) rfl d_TileForge_apart_44 ?_
        refine lv_if_ne (tgt := 58) hx hb d_TileForge_apart_47 (by decide) (fun c_47 => ?_) (fun c_47 => ?_)
        · refine lv_aload_n hx hb d_TileForge_apart_58 rfl (lv_at hl 1 rfl) ?_
          refine va_get (D := D) (ci := 5) (v := .int (nI pw)) (C := "TileForge$Picture") (T := T_Picture) (N := 6) hx hb hts (cs_in in_Picture) hown hK hP 0 rfl rfl 3 (by decide) (hts _ (cs_m mw_478)) (fun _ h9 => h9) rfl d_TileForge_apart_59 ?_
          refine lv_aload hx hb d_TileForge_apart_62 (lv_at hl 0 rfl) ?_
          refine va_get (D := D) (ci := 5) (v := .int (nI pw)) (C := "TileForge$Picture") (T := T_Picture) (N := 6) hx hb hts (cs_in in_Picture) hown hK hP 3 rfl rfl 3 (by decide) (hts _ (cs_m mw_478)) (fun _ h9 => h9) rfl d_TileForge_apart_64 ?_
          refine lv_icmp_ne (tgt := 82) hx hb d_TileForge_apart_67 (by decide) (fun c_67 => ?_) (fun c_67 => ?_)
          · exact absurd rfl c_67
          · refine lv_aload_n hx hb d_TileForge_apart_70 rfl (lv_at hl 1 rfl) ?_
            refine va_get (D := D) (ci := 5) (v := .int (nI ph)) (C := "TileForge$Picture") (T := T_Picture) (N := 6) hx hb hts (cs_in in_Picture) hown hK hP 0 rfl rfl 4 (by decide) (hts _ (cs_m mw_477)) (fun _ h9 => h9) rfl d_TileForge_apart_71 ?_
            refine lv_aload hx hb d_TileForge_apart_74 (lv_at hl 0 rfl) ?_
            refine va_get (D := D) (ci := 5) (v := .int (nI ph)) (C := "TileForge$Picture") (T := T_Picture) (N := 6) hx hb hts (cs_in in_Picture) hown hK hP 3 rfl rfl 4 (by decide) (hts _ (cs_m mw_477)) (fun _ h9 => h9) rfl d_TileForge_apart_76 ?_
            refine lv_icmp_eq (tgt := 90) hx hb d_TileForge_apart_79 (by decide) (fun c_79 => ?_) (fun c_79 => ?_)
            · refine lv_aload_n hx hb d_TileForge_apart_90 rfl (lv_at hl 1 rfl) ?_
              refine lv_aload hx hb d_TileForge_apart_91 (lv_at hl 0 rfl) ?_
              refine cs_Sd (As := [.ref a1, .ref c1]) (rest := []) (wr := [(f0, .inr (8, [.ref a1, .ref c1, .ref r1, .ref y1, .ref k1, .ref j1, .int ibc, .int ilc, .int igl, .int ibk, .int ifa, .int ibd]))]) ⟨hx, hb, hml, hown, hts⟩ (c_tf_mos2 l hcI a1 a2 a3 px md vz vk c1 c2 c3 pxc mdc vzc vkc pw ph (hpw) (hph)) (va_cwS 2 hts (cs_gS mw_525 mw_526 mw_139 mw_476) rfl rfl rfl hd_TileForge_meanOfSquares ⟨Nat.le_of_ble_eq_true rfl, Nat.le_of_ble_eq_true rfl⟩) hN hK hP hD hS hA [0, 1, 2, 3, 4, 5] [6] rfl rfl rfl rfl (by decide) rfl rfl hl.1 (Nat.le_of_ble_eq_true rfl) d_TileForge_apart_93 ⟨Nat.le_of_ble_eq_true rfl, Nat.le_of_ble_eq_true rfl⟩ (fun r5 w1 H locs hw hP hD hS => ?_)
              obtain ⟨rfl, rfl⟩ := hw
              have hP : va_P D vwCl [(f0, .inr (8, [.ref a1, .ref c1, .ref r1, .ref y1, .ref k1, .ref j1, .int ibc, .int ilc, .int igl, .int ibk, .int ifa, .int ibd])), (a1, .inr (5, [.ref a2, .ref a3, .int vz, .int (nI pw), .int (nI ph), .int vk])), (a2, .inl (cI, 144, .inl px)), (a3, .inl (cI, 9, .inl md)), (c1, .inr (5, [.ref c2, .ref c3, .int vzc, .int (nI pw), .int (nI ph), .int vkc])), (c2, .inl (cI, 144, .inl pxc)), (c3, .inl (cI, 9, .inl mdc))] H := hP
              have hD : va_D A [(f0, .inr (8, [.ref a1, .ref c1, .ref r1, .ref y1, .ref k1, .ref j1, .int ibc, .int ilc, .int igl, .int ibk, .int ifa, .int ibd])), (a1, .inr (5, [.ref a2, .ref a3, .int vz, .int (nI pw), .int (nI ph), .int vk])), (a2, .inl (cI, 144, .inl px)), (a3, .inl (cI, 9, .inl md)), (c1, .inr (5, [.ref c2, .ref c3, .int vzc, .int (nI pw), .int (nI ph), .int vkc])), (c2, .inl (cI, 144, .inl pxc)), (c3, .inl (cI, 9, .inl mdc))] := hD
              exact W.dret (v := (FP.ddiv (FP.i2d (apY px pxc pw ph)) (FP.i2d (nI (pw * ph))))) hx hb hr (fun t ht hW => ⟨⟨(FP.ddiv (FP.i2d (apY px pxc pw ph)) (FP.i2d (nI (pw * ph)))), [(f0, .inr (8, [.ref a1, .ref c1, .ref r1, .ref y1, .ref k1, .ref j1, .int ibc, .int ilc, .int igl, .int ibk, .int ifa, .int ibd])), (a1, .inr (5, [.ref a2, .ref a3, .int vz, .int (nI pw), .int (nI ph), .int vk])), (a2, .inl (cI, 144, .inl px)), (a3, .inl (cI, 9, .inl md)), (c1, .inr (5, [.ref c2, .ref c3, .int vzc, .int (nI pw), .int (nI ph), .int vkc])), (c2, .inl (cI, 144, .inl pxc)), (c3, .inl (cI, 9, .inl mdc))], rfl, ⟨(rfl), (rfl)⟩, by rw [ht]; exact hP, va_K.moved hW.alike hK, hD⟩, hS.F ht⟩) hS.2.2 d_TileForge_apart_96
            · exact absurd rfl c_79
        · exact absurd c_47 hm2
    · have c_11 := cs_b0 c_11
      exact absurd (by decide) c_11
def q_tf_apart02 (cI : ClassId) (f0 : Nat) (a1 : Nat) (c1 : Nat) (r1 : Nat) (y1 : Nat) (k1 : Nat) (j1 : Nat) (ibc : Int32) (ilc : Int32) (igl : Int32) (ibk : Int32) (ifa : Int32) (ibd : Int32) (a2 : Nat) (a3 : Nat) (px : Nat → Int32) (md : Nat → Int32) (vz : Int32) (vk : Int32) (r2 : Nat) (r3 : Nat) (pxr : Nat → Int32) (mdr : Nat → Int32) (vzr : Int32) (vkr : Int32) (pw : Nat) (ph : Nat) : UInt64 → va_W → Prop := fun rr ww => rr = (FP.ddiv (FP.i2d (apY px pxr pw ph)) (FP.i2d (nI (pw * ph)))) ∧ ww = [(f0, .inr (8, [.ref a1, .ref c1, .ref r1, .ref y1, .ref k1, .ref j1, .int ibc, .int ilc, .int igl, .int ibk, .int ifa, .int ibd])), (a1, .inr (5, [.ref a2, .ref a3, .int vz, .int (nI pw), .int (nI ph), .int vk])), (a2, .inl (cI, 144, .inl px)), (a3, .inl (cI, 9, .inl md)), (r1, .inr (5, [.ref r2, .ref r3, .int vzr, .int (nI pw), .int (nI ph), .int vkr])), (r2, .inl (cI, 144, .inl pxr)), (r3, .inl (cI, 9, .inl mdr))]
set_option maxHeartbeats 4000000 in
set_option maxRecDepth 100000 in
theorem c_tf_apart02 (l : Launch) {D : va_G} {tys : List (ClassId × FieldType)} {cI : ClassId} (hcI : tys[0]? = some (cI, .int)) (f0 : Nat) (a1 : Nat) (c1 : Nat) (r1 : Nat) (y1 : Nat) (k1 : Nat) (j1 : Nat) (ibc : Int32) (ilc : Int32) (igl : Int32) (ibk : Int32) (ifa : Int32) (ibd : Int32) (a2 : Nat) (a3 : Nat) (px : Nat → Int32) (md : Nat → Int32) (vz : Int32) (vk : Int32) (r2 : Nat) (r3 : Nat) (pxr : Nat → Int32) (mdr : Nat → Int32) (vzr : Int32) (vkr : Int32) (pw : Nat) (ph : Nat) (hm1 : ¬ vz = 0) (hm2 : ¬ vzr = 0) (hpw : 0 < pw ∧ pw ≤ 12) (hph : 0 < ph ∧ ph ≤ 12) : CsD l D vwCl tys y_TileForge_apart ws_TileForge_apart ({ frames := 3, cells := 0, slots := 0, locals := 70 } : Room) [.ref f0, .int 0, .int 2] [(f0, .inr (8, [.ref a1, .ref c1, .ref r1, .ref y1, .ref k1, .ref j1, .int ibc, .int ilc, .int igl, .int ibk, .int ifa, .int ibd])), (a1, .inr (5, [.ref a2, .ref a3, .int vz, .int (nI pw), .int (nI ph), .int vk])), (a2, .inl (cI, 144, .inl px)), (a3, .inl (cI, 9, .inl md)), (r1, .inr (5, [.ref r2, .ref r3, .int vzr, .int (nI pw), .int (nI ph), .int vkr])), (r2, .inl (cI, 144, .inl pxr)), (r3, .inl (cI, 9, .inl mdr))] (q_tf_apart02 cI f0 a1 c1 r1 y1 k1 j1 ibc ilc igl ibk ifa ibd a2 a3 px md vz vk r2 r3 pxr mdr vzr vkr pw ph) 0 0 := by
  intro sz
  refine Met.ofW (cc := prog_1_method_11_code) (maxL := 5) (ret := (some .double)) (by decide) rfl ?_
  intro p e s m args below meth c s₁ B hml hv
  obtain ⟨rfl, hsz, hP, hK, hD0, hN⟩ := hv
  have hx := B.exec
  have hb := B.bytes
  have hr := B.returns
  have hts := atoms_spec (ws := ws_TileForge_apart) B.pre
  have hown : s.vm.findClass "TileForge" = some m.cls := findClass_of_methodNamed B.named
  have hlocks := B.notSynchronized
  subst hsz
  have hD := hD0.self (sz := s.heap.size)
  generalize hAe : va_A [(f0, .inr (8, [.ref a1, .ref c1, .ref r1, .ref y1, .ref k1, .ref j1, .int ibc, .int ilc, .int igl, .int ibk, .int ifa, .int ibd])), (a1, .inr (5, [.ref a2, .ref a3, .int vz, .int (nI pw), .int (nI ph), .int vk])), (a2, .inl (cI, 144, .inl px)), (a3, .inl (cI, 9, .inl md)), (r1, .inr (5, [.ref r2, .ref r3, .int vzr, .int (nI pw), .int (nI ph), .int vkr])), (r2, .inl (cI, 144, .inl pxr)), (r3, .inl (cI, 9, .inl mdr))] s.heap.size = A at hD ⊢
  have hA : ∀ q : Nat, s.heap.size ≤ q → A q := fun q h => by rw [← hAe]; exact Or.inr h
  have hS : va_S A s.heap s.heap [] := va_S.rf
  have hP : va_P D vwCl [(f0, .inr (8, [.ref a1, .ref c1, .ref r1, .ref y1, .ref k1, .ref j1, .int ibc, .int ilc, .int igl, .int ibk, .int ifa, .int ibd])), (a1, .inr (5, [.ref a2, .ref a3, .int vz, .int (nI pw), .int (nI ph), .int vk])), (a2, .inl (cI, 144, .inl px)), (a3, .inl (cI, 9, .inl md)), (r1, .inr (5, [.ref r2, .ref r3, .int vzr, .int (nI pw), .int (nI ph), .int vkr])), (r2, .inl (cI, 144, .inl pxr)), (r3, .inl (cI, 9, .inl mdr))] s.heap := hP
  have hl := lv_entry ([.ref f0, .int 0, .int 2]) (n := 5) (Nat.le_of_ble_eq_true rfl)
  rw [lg_entry_eq]
  generalize (lg_sl ([.ref f0, .int 0, .int 2]) ++ List.replicate (5 - (lg_sl ([.ref f0, .int 0, .int 2])).length) Slot.unset).toArray = ls at hl ⊢
  have hl : lv_has ls 5 [(0, .ref f0), (1, .int 0), (2, .int 2)] := hl
  refine lv_iload_n hx hb d_TileForge_apart_0 rfl (lv_at hl 1 rfl) ?_
  refine cs_Si (As := [.int 0]) (rest := []) (wr := [(f0, .inr (8, [.ref a1, .ref c1, .ref r1, .ref y1, .ref k1, .ref j1, .int ibc, .int ilc, .int igl, .int ibk, .int ifa, .int ibd])), (a1, .inr (5, [.ref a2, .ref a3, .int vz, .int (nI pw), .int (nI ph), .int vk])), (a2, .inl (cI, 144, .inl px)), (a3, .inl (cI, 9, .inl md)), (r1, .inr (5, [.ref r2, .ref r3, .int vzr, .int (nI pw), .int (nI ph), .int vkr])), (r2, .inl (cI, 144, .inl pxr)), (r3, .inl (cI, 9, .inl mdr))]) ⟨hx, hb, hml, hown, hts⟩ (c_isChoice l hcI 0) (va_cwS 1 hts (cs_gS mw_518 mw_519 mw_139 mw_77) rfl rfl rfl hd_TileForge_isChoice ⟨Nat.le_of_ble_eq_true rfl, Nat.le_of_ble_eq_true rfl⟩) hN hK hP hD hS hA [] [0, 1, 2, 3, 4, 5, 6] rfl rfl rfl rfl (by decide) rfl rfl hl.1 (Nat.le_of_ble_eq_true rfl) d_TileForge_apart_1 ⟨Nat.le_of_ble_eq_true rfl, Nat.le_of_ble_eq_true rfl⟩ (fun r1 w1 H locs hw hP hD hS => ?_)
  obtain ⟨rfl, rfl⟩ := hw
  have hP : va_P D vwCl [(f0, .inr (8, [.ref a1, .ref c1, .ref r1, .ref y1, .ref k1, .ref j1, .int ibc, .int ilc, .int igl, .int ibk, .int ifa, .int ibd])), (a1, .inr (5, [.ref a2, .ref a3, .int vz, .int (nI pw), .int (nI ph), .int vk])), (a2, .inl (cI, 144, .inl px)), (a3, .inl (cI, 9, .inl md)), (r1, .inr (5, [.ref r2, .ref r3, .int vzr, .int (nI pw), .int (nI ph), .int vkr])), (r2, .inl (cI, 144, .inl pxr)), (r3, .inl (cI, 9, .inl mdr))] H := hP
  have hD : va_D A [(f0, .inr (8, [.ref a1, .ref c1, .ref r1, .ref y1, .ref k1, .ref j1, .int ibc, .int ilc, .int igl, .int ibk, .int ifa, .int ibd])), (a1, .inr (5, [.ref a2, .ref a3, .int vz, .int (nI pw), .int (nI ph), .int vk])), (a2, .inl (cI, 144, .inl px)), (a3, .inl (cI, 9, .inl md)), (r1, .inr (5, [.ref r2, .ref r3, .int vzr, .int (nI pw), .int (nI ph), .int vkr])), (r2, .inl (cI, 144, .inl pxr)), (r3, .inl (cI, 9, .inl mdr))] := hD
  refine lv_if_eq (tgt := 14) hx hb d_TileForge_apart_4 (by decide) (fun c_4 => ?_) (fun c_4 => ?_)
  · have c_4 := cs_b0 c_4
    exact absurd (by decide) c_4
  · have c_4 := cs_b1 c_4
    refine lv_iload_n hx hb d_TileForge_apart_7 rfl (lv_at hl 2 rfl) ?_
    refine cs_Si (As := [.int 2]) (rest := []) (wr := [(f0, .inr (8, [.ref a1, .ref c1, .ref r1, .ref y1, .ref k1, .ref j1, .int ibc, .int ilc, .int igl, .int ibk, .int ifa, .int ibd])), (a1, .inr (5, [.ref a2, .ref a3, .int vz, .int (nI pw), .int (nI ph), .int vk])), (a2, .inl (cI, 144, .inl px)), (a3, .inl (cI, 9, .inl md)), (r1, .inr (5, [.ref r2, .ref r3, .int vzr, .int (nI pw), .int (nI ph), .int vkr])), (r2, .inl (cI, 144, .inl pxr)), (r3, .inl (cI, 9, .inl mdr))]) ⟨hx, hb, hml, hown, hts⟩ (c_isChoice l hcI 2) (va_cwS 1 hts (cs_gS mw_518 mw_519 mw_139 mw_77) rfl rfl rfl hd_TileForge_isChoice ⟨Nat.le_of_ble_eq_true rfl, Nat.le_of_ble_eq_true rfl⟩) hN hK hP hD hS hA [] [0, 1, 2, 3, 4, 5, 6] rfl rfl rfl rfl (by decide) rfl rfl hl.1 (Nat.le_of_ble_eq_true rfl) d_TileForge_apart_8 ⟨Nat.le_of_ble_eq_true rfl, Nat.le_of_ble_eq_true rfl⟩ (fun r2 w1 H locs hw hP hD hS => ?_)
    obtain ⟨rfl, rfl⟩ := hw
    have hP : va_P D vwCl [(f0, .inr (8, [.ref a1, .ref c1, .ref r1, .ref y1, .ref k1, .ref j1, .int ibc, .int ilc, .int igl, .int ibk, .int ifa, .int ibd])), (a1, .inr (5, [.ref a2, .ref a3, .int vz, .int (nI pw), .int (nI ph), .int vk])), (a2, .inl (cI, 144, .inl px)), (a3, .inl (cI, 9, .inl md)), (r1, .inr (5, [.ref r2, .ref r3, .int vzr, .int (nI pw), .int (nI ph), .int vkr])), (r2, .inl (cI, 144, .inl pxr)), (r3, .inl (cI, 9, .inl mdr))] H := hP
    have hD : va_D A [(f0, .inr (8, [.ref a1, .ref c1, .ref r1, .ref y1, .ref k1, .ref j1, .int ibc, .int ilc, .int igl, .int ibk, .int ifa, .int ibd])), (a1, .inr (5, [.ref a2, .ref a3, .int vz, .int (nI pw), .int (nI ph), .int vk])), (a2, .inl (cI, 144, .inl px)), (a3, .inl (cI, 9, .inl md)), (r1, .inr (5, [.ref r2, .ref r3, .int vzr, .int (nI pw), .int (nI ph), .int vkr])), (r2, .inl (cI, 144, .inl pxr)), (r3, .inl (cI, 9, .inl mdr))] := hD
    refine lv_if_ne (tgt := 22) hx hb d_TileForge_apart_11 (by decide) (fun c_11 => ?_) (fun c_11 => ?_)
    · have c_11 := cs_b1 c_11
      refine lv_aload_n hx hb d_TileForge_apart_22 rfl (lv_at hl 0 rfl) ?_
      refine lv_iload_n hx hb d_TileForge_apart_23 rfl (lv_at hl 1 rfl) ?_
      refine cs_Vr (As := [.int 0]) (rest := []) (wr := [(a1, .inr (5, [.ref a2, .ref a3, .int vz, .int (nI pw), .int (nI ph), .int vk])), (a2, .inl (cI, 144, .inl px)), (a3, .inl (cI, 9, .inl md)), (r1, .inr (5, [.ref r2, .ref r3, .int vzr, .int (nI pw), .int (nI ph), .int vkr])), (r2, .inl (cI, 144, .inl pxr)), (r3, .inl (cI, 9, .inl mdr))]) ⟨hx, hb, hml, hown, hts⟩ (c_tf_choose0 l hcI f0 a1 c1 r1 y1 k1 j1 ibc ilc igl ibk ifa ibd) (cwV 1 hts (cs_gV mw_520 mw_521 mw_522 mw_139 mw_472) rfl rfl rfl ⟨rfl, hd_TileForge_choose⟩ ⟨Nat.le_of_ble_eq_true rfl, Nat.le_of_ble_eq_true rfl⟩) hN hK hP hD hS hA [0] [1, 2, 3, 4, 5, 6] rfl rfl rfl rfl (by decide) (ci := 8) rfl rfl rfl rfl rfl hl.1 (Nat.le_of_ble_eq_true rfl) d_TileForge_apart_24 ⟨Nat.le_of_ble_eq_true rfl, Nat.le_of_ble_eq_true rfl⟩ (fun r3 w1 H locs hw hP hD hS => ?_)
      obtain ⟨hrr, rfl⟩ := hw
      have hrr := hrr.symm
      subst hrr
      have hP : va_P D vwCl [(a1, .inr (5, [.ref a2, .ref a3, .int vz, .int (nI pw), .int (nI ph), .int vk])), (a2, .inl (cI, 144, .inl px)), (a3, .inl (cI, 9, .inl md)), (r1, .inr (5, [.ref r2, .ref r3, .int vzr, .int (nI pw), .int (nI ph), .int vkr])), (r2, .inl (cI, 144, .inl pxr)), (r3, .inl (cI, 9, .inl mdr)), (f0, .inr (8, [.ref a1, .ref c1, .ref r1, .ref y1, .ref k1, .ref j1, .int ibc, .int ilc, .int igl, .int ibk, .int ifa, .int ibd]))] H := hP
      have hD : va_D A [(a1, .inr (5, [.ref a2, .ref a3, .int vz, .int (nI pw), .int (nI ph), .int vk])), (a2, .inl (cI, 144, .inl px)), (a3, .inl (cI, 9, .inl md)), (r1, .inr (5, [.ref r2, .ref r3, .int vzr, .int (nI pw), .int (nI ph), .int vkr])), (r2, .inl (cI, 144, .inl pxr)), (r3, .inl (cI, 9, .inl mdr)), (f0, .inr (8, [.ref a1, .ref c1, .ref r1, .ref y1, .ref k1, .ref j1, .int ibc, .int ilc, .int igl, .int ibk, .int ifa, .int ibd]))] := hD
      refine lv_astore_n (lv' := [(3, .ref a1), (0, .ref f0), (1, .int 0), (2, .int 2)]) hx hb d_TileForge_apart_27 rfl hl (by decide) rfl (fun ls hl => ?_)
      refine lv_aload_n hx hb d_TileForge_apart_28 rfl (lv_at hl 1 rfl) ?_
      refine lv_iload_n hx hb d_TileForge_apart_29 rfl (lv_at hl 3 rfl) ?_
      refine cs_Vr (As := [.int 2]) (rest := []) (wr := [(a1, .inr (5, [.ref a2, .ref a3, .int vz, .int (nI pw), .int (nI ph), .int vk])), (a2, .inl (cI, 144, .inl px)), (a3, .inl (cI, 9, .inl md)), (r1, .inr (5, [.ref r2, .ref r3, .int vzr, .int (nI pw), .int (nI ph), .int vkr])), (r2, .inl (cI, 144, .inl pxr)), (r3, .inl (cI, 9, .inl mdr))]) ⟨hx, hb, hml, hown, hts⟩ (c_tf_choose2 l hcI f0 a1 c1 r1 y1 k1 j1 ibc ilc igl ibk ifa ibd) (cwV 1 hts (cs_gV mw_520 mw_521 mw_522 mw_139 mw_472) rfl rfl rfl ⟨rfl, hd_TileForge_choose⟩ ⟨Nat.le_of_ble_eq_true rfl, Nat.le_of_ble_eq_true rfl⟩) hN hK hP hD hS hA [6] [0, 1, 2, 3, 4, 5] rfl rfl rfl rfl (by decide) (ci := 8) rfl rfl rfl rfl rfl hl.1 (Nat.le_of_ble_eq_true rfl) d_TileForge_apart_30 ⟨Nat.le_of_ble_eq_true rfl, Nat.le_of_ble_eq_true rfl⟩ (fun r4 w1 H locs hw hP hD hS => ?_)
      obtain ⟨hrr, rfl⟩ := hw
      have hrr := hrr.symm
      subst hrr
      have hP : va_P D vwCl [(a1, .inr (5, [.ref a2, .ref a3, .int vz, .int (nI pw), .int (nI ph), .int vk])), (a2, .inl (cI, 144, .inl px)), (a3, .inl (cI, 9, .inl md)), (r1, .inr (5, [.ref r2, .ref r3, .int vzr, .int (nI pw), .int (nI ph), .int vkr])), (r2, .inl (cI, 144, .inl pxr)), (r3, .inl (cI, 9, .inl mdr)), (f0, .inr (8, [.ref a1, .ref c1, .ref r1, .ref y1, .ref k1, .ref j1, .int ibc, .int ilc, .int igl, .int ibk, .int ifa, .int ibd]))] H := hP
      have hD : va_D A [(a1, .inr (5, [.ref a2, .ref a3, .int vz, .int (nI pw), .int (nI ph), .int vk])), (a2, .inl (cI, 144, .inl px)), (a3, .inl (cI, 9, .inl md)), (r1, .inr (5, [.ref r2, .ref r3, .int vzr, .int (nI pw), .int (nI ph), .int vkr])), (r2, .inl (cI, 144, .inl pxr)), (r3, .inl (cI, 9, .inl mdr)), (f0, .inr (8, [.ref a1, .ref c1, .ref r1, .ref y1, .ref k1, .ref j1, .int ibc, .int ilc, .int igl, .int ibk, .int ifa, .int ibd]))] := hD
      refine lv_astore (lv' := [(4, .ref r1), (3, .ref a1), (0, .ref f0), (1, .int 0), (2, .int 2)]) hx hb d_TileForge_apart_33 hl (by decide) rfl (fun ls hl => ?_)
      refine lv_aload_n hx hb d_TileForge_apart_35 rfl (lv_at hl 1 rfl) ?_
      refine va_get (D := D) (ci := 5) (v := .int vz) (C := "TileForge$Picture") (T := T_Picture) (N := 6) hx hb hts (cs_in in_Picture) hown hK hP 0 rfl rfl 2 (by decide) (hts _ (cs_m mw_523)) (fun _ h9 => h9) rfl d_TileForge_apart_36 ?_
      refine lv_if_eq (tgt := 50) hx hb d_TileForge_apart_39 (by decide) (fun c_39 => ?_) (fun c_39 => ?_)
      · exact absurd c_39 hm1
      · refine lv_aload hx hb d_TileForge_apart_42 (lv_at hl 0 rfl) ?_
        refine va_get (D := D) (ci := 5) (v := .int vzr) (C := "TileForge$Picture") (T := T_Picture) (N := 6) hx hb hts (cs_in in_Picture) hown hK hP 3 rfl rfl 2 (by decide) (hts _ (cs_m mw_523)) (fun _ h9 => h9) rfl d_TileForge_apart_44 ?_
        refine lv_if_ne (tgt := 58) hx hb d_TileForge_apart_47 (by decide) (fun c_47 => ?_) (fun c_47 => ?_)
        · refine lv_aload_n hx hb d_TileForge_apart_58 rfl (lv_at hl 1 rfl) ?_
          refine va_get (D := D) (ci := 5) (v := .int (nI pw)) (C := "TileForge$Picture") (T := T_Picture) (N := 6) hx hb hts (cs_in in_Picture) hown hK hP 0 rfl rfl 3 (by decide) (hts _ (cs_m mw_478)) (fun _ h9 => h9) rfl d_TileForge_apart_59 ?_
          refine lv_aload hx hb d_TileForge_apart_62 (lv_at hl 0 rfl) ?_
          refine va_get (D := D) (ci := 5) (v := .int (nI pw)) (C := "TileForge$Picture") (T := T_Picture) (N := 6) hx hb hts (cs_in in_Picture) hown hK hP 3 rfl rfl 3 (by decide) (hts _ (cs_m mw_478)) (fun _ h9 => h9) rfl d_TileForge_apart_64 ?_
          refine lv_icmp_ne (tgt := 82) hx hb d_TileForge_apart_67 (by decide) (fun c_67 => ?_) (fun c_67 => ?_)
          · exact absurd rfl c_67
          · refine lv_aload_n hx hb d_TileForge_apart_70 rfl (lv_at hl 1 rfl) ?_
            refine va_get (D := D) (ci := 5) (v := .int (nI ph)) (C := "TileForge$Picture") (T := T_Picture) (N := 6) hx hb hts (cs_in in_Picture) hown hK hP 0 rfl rfl 4 (by decide) (hts _ (cs_m mw_477)) (fun _ h9 => h9) rfl d_TileForge_apart_71 ?_
            refine lv_aload hx hb d_TileForge_apart_74 (lv_at hl 0 rfl) ?_
            refine va_get (D := D) (ci := 5) (v := .int (nI ph)) (C := "TileForge$Picture") (T := T_Picture) (N := 6) hx hb hts (cs_in in_Picture) hown hK hP 3 rfl rfl 4 (by decide) (hts _ (cs_m mw_477)) (fun _ h9 => h9) rfl d_TileForge_apart_76 ?_
            refine lv_icmp_eq (tgt := 90) hx hb d_TileForge_apart_79 (by decide) (fun c_79 => ?_) (fun c_79 => ?_)
            · refine lv_aload_n hx hb d_TileForge_apart_90 rfl (lv_at hl 1 rfl) ?_
              refine lv_aload hx hb d_TileForge_apart_91 (lv_at hl 0 rfl) ?_
              refine cs_Sd (As := [.ref a1, .ref r1]) (rest := []) (wr := [(f0, .inr (8, [.ref a1, .ref c1, .ref r1, .ref y1, .ref k1, .ref j1, .int ibc, .int ilc, .int igl, .int ibk, .int ifa, .int ibd]))]) ⟨hx, hb, hml, hown, hts⟩ (c_tf_mos2 l hcI a1 a2 a3 px md vz vk r1 r2 r3 pxr mdr vzr vkr pw ph (hpw) (hph)) (va_cwS 2 hts (cs_gS mw_525 mw_526 mw_139 mw_476) rfl rfl rfl hd_TileForge_meanOfSquares ⟨Nat.le_of_ble_eq_true rfl, Nat.le_of_ble_eq_true rfl⟩) hN hK hP hD hS hA [0, 1, 2, 3, 4, 5] [6] rfl rfl rfl rfl (by decide) rfl rfl hl.1 (Nat.le_of_ble_eq_true rfl) d_TileForge_apart_93 ⟨Nat.le_of_ble_eq_true rfl, Nat.le_of_ble_eq_true rfl⟩ (fun r5 w1 H locs hw hP hD hS => ?_)
              obtain ⟨rfl, rfl⟩ := hw
              have hP : va_P D vwCl [(f0, .inr (8, [.ref a1, .ref c1, .ref r1, .ref y1, .ref k1, .ref j1, .int ibc, .int ilc, .int igl, .int ibk, .int ifa, .int ibd])), (a1, .inr (5, [.ref a2, .ref a3, .int vz, .int (nI pw), .int (nI ph), .int vk])), (a2, .inl (cI, 144, .inl px)), (a3, .inl (cI, 9, .inl md)), (r1, .inr (5, [.ref r2, .ref r3, .int vzr, .int (nI pw), .int (nI ph), .int vkr])), (r2, .inl (cI, 144, .inl pxr)), (r3, .inl (cI, 9, .inl mdr))] H := hP
              have hD : va_D A [(f0, .inr (8, [.ref a1, .ref c1, .ref r1, .ref y1, .ref k1, .ref j1, .int ibc, .int ilc, .int igl, .int ibk, .int ifa, .int ibd])), (a1, .inr (5, [.ref a2, .ref a3, .int vz, .int (nI pw), .int (nI ph), .int vk])), (a2, .inl (cI, 144, .inl px)), (a3, .inl (cI, 9, .inl md)), (r1, .inr (5, [.ref r2, .ref r3, .int vzr, .int (nI pw), .int (nI ph), .int vkr])), (r2, .inl (cI, 144, .inl pxr)), (r3, .inl (cI, 9, .inl mdr))] := hD
              exact W.dret (v := (FP.ddiv (FP.i2d (apY px pxr pw ph)) (FP.i2d (nI (pw * ph))))) hx hb hr (fun t ht hW => ⟨⟨(FP.ddiv (FP.i2d (apY px pxr pw ph)) (FP.i2d (nI (pw * ph)))), [(f0, .inr (8, [.ref a1, .ref c1, .ref r1, .ref y1, .ref k1, .ref j1, .int ibc, .int ilc, .int igl, .int ibk, .int ifa, .int ibd])), (a1, .inr (5, [.ref a2, .ref a3, .int vz, .int (nI pw), .int (nI ph), .int vk])), (a2, .inl (cI, 144, .inl px)), (a3, .inl (cI, 9, .inl md)), (r1, .inr (5, [.ref r2, .ref r3, .int vzr, .int (nI pw), .int (nI ph), .int vkr])), (r2, .inl (cI, 144, .inl pxr)), (r3, .inl (cI, 9, .inl mdr))], rfl, ⟨(rfl), (rfl)⟩, by rw [ht]; exact hP, va_K.moved hW.alike hK, hD⟩, hS.F ht⟩) hS.2.2 d_TileForge_apart_96
            · exact absurd rfl c_79
        · exact absurd c_47 hm2
    · have c_11 := cs_b0 c_11
      exact absurd (by decide) c_11
def q_tf_apart10 (cI : ClassId) (f0 : Nat) (a1 : Nat) (c1 : Nat) (r1 : Nat) (y1 : Nat) (k1 : Nat) (j1 : Nat) (ibc : Int32) (ilc : Int32) (igl : Int32) (ibk : Int32) (ifa : Int32) (ibd : Int32) (c2 : Nat) (c3 : Nat) (pxc : Nat → Int32) (mdc : Nat → Int32) (vzc : Int32) (vkc : Int32) (a2 : Nat) (a3 : Nat) (px : Nat → Int32) (md : Nat → Int32) (vz : Int32) (vk : Int32) (pw : Nat) (ph : Nat) : UInt64 → va_W → Prop := fun rr ww => rr = (FP.ddiv (FP.i2d (apY pxc px pw ph)) (FP.i2d (nI (pw * ph)))) ∧ ww = [(f0, .inr (8, [.ref a1, .ref c1, .ref r1, .ref y1, .ref k1, .ref j1, .int ibc, .int ilc, .int igl, .int ibk, .int ifa, .int ibd])), (c1, .inr (5, [.ref c2, .ref c3, .int vzc, .int (nI pw), .int (nI ph), .int vkc])), (c2, .inl (cI, 144, .inl pxc)), (c3, .inl (cI, 9, .inl mdc)), (a1, .inr (5, [.ref a2, .ref a3, .int vz, .int (nI pw), .int (nI ph), .int vk])), (a2, .inl (cI, 144, .inl px)), (a3, .inl (cI, 9, .inl md))]
set_option maxHeartbeats 4000000 in
set_option maxRecDepth 100000 in
theorem c_tf_apart10 (l : Launch) {D : va_G} {tys : List (ClassId × FieldType)} {cI : ClassId} (hcI : tys[0]? = some (cI, .int)) (f0 : Nat) (a1 : Nat) (c1 : Nat) (r1 : Nat) (y1 : Nat) (k1 : Nat) (j1 : Nat) (ibc : Int32) (ilc : Int32) (igl : Int32) (ibk : Int32) (ifa : Int32) (ibd : Int32) (c2 : Nat) (c3 : Nat) (pxc : Nat → Int32) (mdc : Nat → Int32) (vzc : Int32) (vkc : Int32) (a2 : Nat) (a3 : Nat) (px : Nat → Int32) (md : Nat → Int32) (vz : Int32) (vk : Int32) (pw : Nat) (ph : Nat) (hm1 : ¬ vzc = 0) (hm2 : ¬ vz = 0) (hpw : 0 < pw ∧ pw ≤ 12) (hph : 0 < ph ∧ ph ≤ 12) : CsD l D vwCl tys y_TileForge_apart ws_TileForge_apart ({ frames := 3, cells := 0, slots := 0, locals := 70 } : Room) [.ref f0, .int 1, .int 0] [(f0, .inr (8, [.ref a1, .ref c1, .ref r1, .ref y1, .ref k1, .ref j1, .int ibc, .int ilc, .int igl, .int ibk, .int ifa, .int ibd])), (c1, .inr (5, [.ref c2, .ref c3, .int vzc, .int (nI pw), .int (nI ph), .int vkc])), (c2, .inl (cI, 144, .inl pxc)), (c3, .inl (cI, 9, .inl mdc)), (a1, .inr (5, [.ref a2, .ref a3, .int vz, .int (nI pw), .int (nI ph), .int vk])), (a2, .inl (cI, 144, .inl px)), (a3, .inl (cI, 9, .inl md))] (q_tf_apart10 cI f0 a1 c1 r1 y1 k1 j1 ibc ilc igl ibk ifa ibd c2 c3 pxc mdc vzc vkc a2 a3 px md vz vk pw ph) 0 0 := by
  intro sz
  refine Met.ofW (cc := prog_1_method_11_code) (maxL := 5) (ret := (some .double)) (by decide) rfl ?_
  intro p e s m args below meth c s₁ B hml hv
  obtain ⟨rfl, hsz, hP, hK, hD0, hN⟩ := hv
  have hx := B.exec
  have hb := B.bytes
  have hr := B.returns
  have hts := atoms_spec (ws := ws_TileForge_apart) B.pre
  have hown : s.vm.findClass "TileForge" = some m.cls := findClass_of_methodNamed B.named
  have hlocks := B.notSynchronized
  subst hsz
  have hD := hD0.self (sz := s.heap.size)
  generalize hAe : va_A [(f0, .inr (8, [.ref a1, .ref c1, .ref r1, .ref y1, .ref k1, .ref j1, .int ibc, .int ilc, .int igl, .int ibk, .int ifa, .int ibd])), (c1, .inr (5, [.ref c2, .ref c3, .int vzc, .int (nI pw), .int (nI ph), .int vkc])), (c2, .inl (cI, 144, .inl pxc)), (c3, .inl (cI, 9, .inl mdc)), (a1, .inr (5, [.ref a2, .ref a3, .int vz, .int (nI pw), .int (nI ph), .int vk])), (a2, .inl (cI, 144, .inl px)), (a3, .inl (cI, 9, .inl md))] s.heap.size = A at hD ⊢
  have hA : ∀ q : Nat, s.heap.size ≤ q → A q := fun q h => by rw [← hAe]; exact Or.inr h
  have hS : va_S A s.heap s.heap [] := va_S.rf
  have hP : va_P D vwCl [(f0, .inr (8, [.ref a1, .ref c1, .ref r1, .ref y1, .ref k1, .ref j1, .int ibc, .int ilc, .int igl, .int ibk, .int ifa, .int ibd])), (c1, .inr (5, [.ref c2, .ref c3, .int vzc, .int (nI pw), .int (nI ph), .int vkc])), (c2, .inl (cI, 144, .inl pxc)), (c3, .inl (cI, 9, .inl mdc)), (a1, .inr (5, [.ref a2, .ref a3, .int vz, .int (nI pw), .int (nI ph), .int vk])), (a2, .inl (cI, 144, .inl px)), (a3, .inl (cI, 9, .inl md))] s.heap := hP
  have hl := lv_entry ([.ref f0, .int 1, .int 0]) (n := 5) (Nat.le_of_ble_eq_true rfl)
  rw [lg_entry_eq]
  generalize (lg_sl ([.ref f0, .int 1, .int 0]) ++ List.replicate (5 - (lg_sl ([.ref f0, .int 1, .int 0])).length) Slot.unset).toArray = ls at hl ⊢
  have hl : lv_has ls 5 [(0, .ref f0), (1, .int 1), (2, .int 0)] := hl
  refine lv_iload_n hx hb d_TileForge_apart_0 rfl (lv_at hl 1 rfl) ?_
  refine cs_Si (As := [.int 1]) (rest := []) (wr := [(f0, .inr (8, [.ref a1, .ref c1, .ref r1, .ref y1, .ref k1, .ref j1, .int ibc, .int ilc, .int igl, .int ibk, .int ifa, .int ibd])), (c1, .inr (5, [.ref c2, .ref c3, .int vzc, .int (nI pw), .int (nI ph), .int vkc])), (c2, .inl (cI, 144, .inl pxc)), (c3, .inl (cI, 9, .inl mdc)), (a1, .inr (5, [.ref a2, .ref a3, .int vz, .int (nI pw), .int (nI ph), .int vk])), (a2, .inl (cI, 144, .inl px)), (a3, .inl (cI, 9, .inl md))]) ⟨hx, hb, hml, hown, hts⟩ (c_isChoice l hcI 1) (va_cwS 1 hts (cs_gS mw_518 mw_519 mw_139 mw_77) rfl rfl rfl hd_TileForge_isChoice ⟨Nat.le_of_ble_eq_true rfl, Nat.le_of_ble_eq_true rfl⟩) hN hK hP hD hS hA [] [0, 1, 2, 3, 4, 5, 6] rfl rfl rfl rfl (by decide) rfl rfl hl.1 (Nat.le_of_ble_eq_true rfl) d_TileForge_apart_1 ⟨Nat.le_of_ble_eq_true rfl, Nat.le_of_ble_eq_true rfl⟩ (fun r1 w1 H locs hw hP hD hS => ?_)
  obtain ⟨rfl, rfl⟩ := hw
  have hP : va_P D vwCl [(f0, .inr (8, [.ref a1, .ref c1, .ref r1, .ref y1, .ref k1, .ref j1, .int ibc, .int ilc, .int igl, .int ibk, .int ifa, .int ibd])), (c1, .inr (5, [.ref c2, .ref c3, .int vzc, .int (nI pw), .int (nI ph), .int vkc])), (c2, .inl (cI, 144, .inl pxc)), (c3, .inl (cI, 9, .inl mdc)), (a1, .inr (5, [.ref a2, .ref a3, .int vz, .int (nI pw), .int (nI ph), .int vk])), (a2, .inl (cI, 144, .inl px)), (a3, .inl (cI, 9, .inl md))] H := hP
  have hD : va_D A [(f0, .inr (8, [.ref a1, .ref c1, .ref r1, .ref y1, .ref k1, .ref j1, .int ibc, .int ilc, .int igl, .int ibk, .int ifa, .int ibd])), (c1, .inr (5, [.ref c2, .ref c3, .int vzc, .int (nI pw), .int (nI ph), .int vkc])), (c2, .inl (cI, 144, .inl pxc)), (c3, .inl (cI, 9, .inl mdc)), (a1, .inr (5, [.ref a2, .ref a3, .int vz, .int (nI pw), .int (nI ph), .int vk])), (a2, .inl (cI, 144, .inl px)), (a3, .inl (cI, 9, .inl md))] := hD
  refine lv_if_eq (tgt := 14) hx hb d_TileForge_apart_4 (by decide) (fun c_4 => ?_) (fun c_4 => ?_)
  · have c_4 := cs_b0 c_4
    exact absurd (by decide) c_4
  · have c_4 := cs_b1 c_4
    refine lv_iload_n hx hb d_TileForge_apart_7 rfl (lv_at hl 2 rfl) ?_
    refine cs_Si (As := [.int 0]) (rest := []) (wr := [(f0, .inr (8, [.ref a1, .ref c1, .ref r1, .ref y1, .ref k1, .ref j1, .int ibc, .int ilc, .int igl, .int ibk, .int ifa, .int ibd])), (c1, .inr (5, [.ref c2, .ref c3, .int vzc, .int (nI pw), .int (nI ph), .int vkc])), (c2, .inl (cI, 144, .inl pxc)), (c3, .inl (cI, 9, .inl mdc)), (a1, .inr (5, [.ref a2, .ref a3, .int vz, .int (nI pw), .int (nI ph), .int vk])), (a2, .inl (cI, 144, .inl px)), (a3, .inl (cI, 9, .inl md))]) ⟨hx, hb, hml, hown, hts⟩ (c_isChoice l hcI 0) (va_cwS 1 hts (cs_gS mw_518 mw_519 mw_139 mw_77) rfl rfl rfl hd_TileForge_isChoice ⟨Nat.le_of_ble_eq_true rfl, Nat.le_of_ble_eq_true rfl⟩) hN hK hP hD hS hA [] [0, 1, 2, 3, 4, 5, 6] rfl rfl rfl rfl (by decide) rfl rfl hl.1 (Nat.le_of_ble_eq_true rfl) d_TileForge_apart_8 ⟨Nat.le_of_ble_eq_true rfl, Nat.le_of_ble_eq_true rfl⟩ (fun r2 w1 H locs hw hP hD hS => ?_)
    obtain ⟨rfl, rfl⟩ := hw
    have hP : va_P D vwCl [(f0, .inr (8, [.ref a1, .ref c1, .ref r1, .ref y1, .ref k1, .ref j1, .int ibc, .int ilc, .int igl, .int ibk, .int ifa, .int ibd])), (c1, .inr (5, [.ref c2, .ref c3, .int vzc, .int (nI pw), .int (nI ph), .int vkc])), (c2, .inl (cI, 144, .inl pxc)), (c3, .inl (cI, 9, .inl mdc)), (a1, .inr (5, [.ref a2, .ref a3, .int vz, .int (nI pw), .int (nI ph), .int vk])), (a2, .inl (cI, 144, .inl px)), (a3, .inl (cI, 9, .inl md))] H := hP
    have hD : va_D A [(f0, .inr (8, [.ref a1, .ref c1, .ref r1, .ref y1, .ref k1, .ref j1, .int ibc, .int ilc, .int igl, .int ibk, .int ifa, .int ibd])), (c1, .inr (5, [.ref c2, .ref c3, .int vzc, .int (nI pw), .int (nI ph), .int vkc])), (c2, .inl (cI, 144, .inl pxc)), (c3, .inl (cI, 9, .inl mdc)), (a1, .inr (5, [.ref a2, .ref a3, .int vz, .int (nI pw), .int (nI ph), .int vk])), (a2, .inl (cI, 144, .inl px)), (a3, .inl (cI, 9, .inl md))] := hD
    refine lv_if_ne (tgt := 22) hx hb d_TileForge_apart_11 (by decide) (fun c_11 => ?_) (fun c_11 => ?_)
    · have c_11 := cs_b1 c_11
      refine lv_aload_n hx hb d_TileForge_apart_22 rfl (lv_at hl 0 rfl) ?_
      refine lv_iload_n hx hb d_TileForge_apart_23 rfl (lv_at hl 1 rfl) ?_
      refine cs_Vr (As := [.int 1]) (rest := []) (wr := [(c1, .inr (5, [.ref c2, .ref c3, .int vzc, .int (nI pw), .int (nI ph), .int vkc])), (c2, .inl (cI, 144, .inl pxc)), (c3, .inl (cI, 9, .inl mdc)), (a1, .inr (5, [.ref a2, .ref a3, .int vz, .int (nI pw), .int (nI ph), .int vk])), (a2, .inl (cI, 144, .inl px)), (a3, .inl (cI, 9, .inl md))]) ⟨hx, hb, hml, hown, hts⟩ (c_tf_choose1 l hcI f0 a1 c1 r1 y1 k1 j1 ibc ilc igl ibk ifa ibd) (cwV 1 hts (cs_gV mw_520 mw_521 mw_522 mw_139 mw_472) rfl rfl rfl ⟨rfl, hd_TileForge_choose⟩ ⟨Nat.le_of_ble_eq_true rfl, Nat.le_of_ble_eq_true rfl⟩) hN hK hP hD hS hA [0] [1, 2, 3, 4, 5, 6] rfl rfl rfl rfl (by decide) (ci := 8) rfl rfl rfl rfl rfl hl.1 (Nat.le_of_ble_eq_true rfl) d_TileForge_apart_24 ⟨Nat.le_of_ble_eq_true rfl, Nat.le_of_ble_eq_true rfl⟩ (fun r3 w1 H locs hw hP hD hS => ?_)
      obtain ⟨hrr, rfl⟩ := hw
      have hrr := hrr.symm
      subst hrr
      have hP : va_P D vwCl [(c1, .inr (5, [.ref c2, .ref c3, .int vzc, .int (nI pw), .int (nI ph), .int vkc])), (c2, .inl (cI, 144, .inl pxc)), (c3, .inl (cI, 9, .inl mdc)), (a1, .inr (5, [.ref a2, .ref a3, .int vz, .int (nI pw), .int (nI ph), .int vk])), (a2, .inl (cI, 144, .inl px)), (a3, .inl (cI, 9, .inl md)), (f0, .inr (8, [.ref a1, .ref c1, .ref r1, .ref y1, .ref k1, .ref j1, .int ibc, .int ilc, .int igl, .int ibk, .int ifa, .int ibd]))] H := hP
      have hD : va_D A [(c1, .inr (5, [.ref c2, .ref c3, .int vzc, .int (nI pw), .int (nI ph), .int vkc])), (c2, .inl (cI, 144, .inl pxc)), (c3, .inl (cI, 9, .inl mdc)), (a1, .inr (5, [.ref a2, .ref a3, .int vz, .int (nI pw), .int (nI ph), .int vk])), (a2, .inl (cI, 144, .inl px)), (a3, .inl (cI, 9, .inl md)), (f0, .inr (8, [.ref a1, .ref c1, .ref r1, .ref y1, .ref k1, .ref j1, .int ibc, .int ilc, .int igl, .int ibk, .int ifa, .int ibd]))] := hD
      refine lv_astore_n (lv' := [(3, .ref c1), (0, .ref f0), (1, .int 1), (2, .int 0)]) hx hb d_TileForge_apart_27 rfl hl (by decide) rfl (fun ls hl => ?_)
      refine lv_aload_n hx hb d_TileForge_apart_28 rfl (lv_at hl 1 rfl) ?_
      refine lv_iload_n hx hb d_TileForge_apart_29 rfl (lv_at hl 3 rfl) ?_
      refine cs_Vr (As := [.int 0]) (rest := []) (wr := [(c1, .inr (5, [.ref c2, .ref c3, .int vzc, .int (nI pw), .int (nI ph), .int vkc])), (c2, .inl (cI, 144, .inl pxc)), (c3, .inl (cI, 9, .inl mdc)), (a1, .inr (5, [.ref a2, .ref a3, .int vz, .int (nI pw), .int (nI ph), .int vk])), (a2, .inl (cI, 144, .inl px)), (a3, .inl (cI, 9, .inl md))]) ⟨hx, hb, hml, hown, hts⟩ (c_tf_choose0 l hcI f0 a1 c1 r1 y1 k1 j1 ibc ilc igl ibk ifa ibd) (cwV 1 hts (cs_gV mw_520 mw_521 mw_522 mw_139 mw_472) rfl rfl rfl ⟨rfl, hd_TileForge_choose⟩ ⟨Nat.le_of_ble_eq_true rfl, Nat.le_of_ble_eq_true rfl⟩) hN hK hP hD hS hA [6] [0, 1, 2, 3, 4, 5] rfl rfl rfl rfl (by decide) (ci := 8) rfl rfl rfl rfl rfl hl.1 (Nat.le_of_ble_eq_true rfl) d_TileForge_apart_30 ⟨Nat.le_of_ble_eq_true rfl, Nat.le_of_ble_eq_true rfl⟩ (fun r4 w1 H locs hw hP hD hS => ?_)
      obtain ⟨hrr, rfl⟩ := hw
      have hrr := hrr.symm
      subst hrr
      have hP : va_P D vwCl [(c1, .inr (5, [.ref c2, .ref c3, .int vzc, .int (nI pw), .int (nI ph), .int vkc])), (c2, .inl (cI, 144, .inl pxc)), (c3, .inl (cI, 9, .inl mdc)), (a1, .inr (5, [.ref a2, .ref a3, .int vz, .int (nI pw), .int (nI ph), .int vk])), (a2, .inl (cI, 144, .inl px)), (a3, .inl (cI, 9, .inl md)), (f0, .inr (8, [.ref a1, .ref c1, .ref r1, .ref y1, .ref k1, .ref j1, .int ibc, .int ilc, .int igl, .int ibk, .int ifa, .int ibd]))] H := hP
      have hD : va_D A [(c1, .inr (5, [.ref c2, .ref c3, .int vzc, .int (nI pw), .int (nI ph), .int vkc])), (c2, .inl (cI, 144, .inl pxc)), (c3, .inl (cI, 9, .inl mdc)), (a1, .inr (5, [.ref a2, .ref a3, .int vz, .int (nI pw), .int (nI ph), .int vk])), (a2, .inl (cI, 144, .inl px)), (a3, .inl (cI, 9, .inl md)), (f0, .inr (8, [.ref a1, .ref c1, .ref r1, .ref y1, .ref k1, .ref j1, .int ibc, .int ilc, .int igl, .int ibk, .int ifa, .int ibd]))] := hD
      refine lv_astore (lv' := [(4, .ref a1), (3, .ref c1), (0, .ref f0), (1, .int 1), (2, .int 0)]) hx hb d_TileForge_apart_33 hl (by decide) rfl (fun ls hl => ?_)
      refine lv_aload_n hx hb d_TileForge_apart_35 rfl (lv_at hl 1 rfl) ?_
      refine va_get (D := D) (ci := 5) (v := .int vzc) (C := "TileForge$Picture") (T := T_Picture) (N := 6) hx hb hts (cs_in in_Picture) hown hK hP 0 rfl rfl 2 (by decide) (hts _ (cs_m mw_523)) (fun _ h9 => h9) rfl d_TileForge_apart_36 ?_
      refine lv_if_eq (tgt := 50) hx hb d_TileForge_apart_39 (by decide) (fun c_39 => ?_) (fun c_39 => ?_)
      · exact absurd c_39 hm1
      · refine lv_aload hx hb d_TileForge_apart_42 (lv_at hl 0 rfl) ?_
        refine va_get (D := D) (ci := 5) (v := .int vz) (C := "TileForge$Picture") (T := T_Picture) (N := 6) hx hb hts (cs_in in_Picture) hown hK hP 3 rfl rfl 2 (by decide) (hts _ (cs_m mw_523)) (fun _ h9 => h9) rfl d_TileForge_apart_44 ?_
        refine lv_if_ne (tgt := 58) hx hb d_TileForge_apart_47 (by decide) (fun c_47 => ?_) (fun c_47 => ?_)
        · refine lv_aload_n hx hb d_TileForge_apart_58 rfl (lv_at hl 1 rfl) ?_
          refine va_get (D := D) (ci := 5) (v := .int (nI pw)) (C := "TileForge$Picture") (T := T_Picture) (N := 6) hx hb hts (cs_in in_Picture) hown hK hP 0 rfl rfl 3 (by decide) (hts _ (cs_m mw_478)) (fun _ h9 => h9) rfl d_TileForge_apart_59 ?_
          refine lv_aload hx hb d_TileForge_apart_62 (lv_at hl 0 rfl) ?_
          refine va_get (D := D) (ci := 5) (v := .int (nI pw)) (C := "TileForge$Picture") (T := T_Picture) (N := 6) hx hb hts (cs_in in_Picture) hown hK hP 3 rfl rfl 3 (by decide) (hts _ (cs_m mw_478)) (fun _ h9 => h9) rfl d_TileForge_apart_64 ?_
          refine lv_icmp_ne (tgt := 82) hx hb d_TileForge_apart_67 (by decide) (fun c_67 => ?_) (fun c_67 => ?_)
          · exact absurd rfl c_67
          · refine lv_aload_n hx hb d_TileForge_apart_70 rfl (lv_at hl 1 rfl) ?_
            refine va_get (D := D) (ci := 5) (v := .int (nI ph)) (C := "TileForge$Picture") (T := T_Picture) (N := 6) hx hb hts (cs_in in_Picture) hown hK hP 0 rfl rfl 4 (by decide) (hts _ (cs_m mw_477)) (fun _ h9 => h9) rfl d_TileForge_apart_71 ?_
            refine lv_aload hx hb d_TileForge_apart_74 (lv_at hl 0 rfl) ?_
            refine va_get (D := D) (ci := 5) (v := .int (nI ph)) (C := "TileForge$Picture") (T := T_Picture) (N := 6) hx hb hts (cs_in in_Picture) hown hK hP 3 rfl rfl 4 (by decide) (hts _ (cs_m mw_477)) (fun _ h9 => h9) rfl d_TileForge_apart_76 ?_
            refine lv_icmp_eq (tgt := 90) hx hb d_TileForge_apart_79 (by decide) (fun c_79 => ?_) (fun c_79 => ?_)
            · refine lv_aload_n hx hb d_TileForge_apart_90 rfl (lv_at hl 1 rfl) ?_
              refine lv_aload hx hb d_TileForge_apart_91 (lv_at hl 0 rfl) ?_
              refine cs_Sd (As := [.ref c1, .ref a1]) (rest := []) (wr := [(f0, .inr (8, [.ref a1, .ref c1, .ref r1, .ref y1, .ref k1, .ref j1, .int ibc, .int ilc, .int igl, .int ibk, .int ifa, .int ibd]))]) ⟨hx, hb, hml, hown, hts⟩ (c_tf_mos2 l hcI c1 c2 c3 pxc mdc vzc vkc a1 a2 a3 px md vz vk pw ph (hpw) (hph)) (va_cwS 2 hts (cs_gS mw_525 mw_526 mw_139 mw_476) rfl rfl rfl hd_TileForge_meanOfSquares ⟨Nat.le_of_ble_eq_true rfl, Nat.le_of_ble_eq_true rfl⟩) hN hK hP hD hS hA [0, 1, 2, 3, 4, 5] [6] rfl rfl rfl rfl (by decide) rfl rfl hl.1 (Nat.le_of_ble_eq_true rfl) d_TileForge_apart_93 ⟨Nat.le_of_ble_eq_true rfl, Nat.le_of_ble_eq_true rfl⟩ (fun r5 w1 H locs hw hP hD hS => ?_)
              obtain ⟨rfl, rfl⟩ := hw
              have hP : va_P D vwCl [(f0, .inr (8, [.ref a1, .ref c1, .ref r1, .ref y1, .ref k1, .ref j1, .int ibc, .int ilc, .int igl, .int ibk, .int ifa, .int ibd])), (c1, .inr (5, [.ref c2, .ref c3, .int vzc, .int (nI pw), .int (nI ph), .int vkc])), (c2, .inl (cI, 144, .inl pxc)), (c3, .inl (cI, 9, .inl mdc)), (a1, .inr (5, [.ref a2, .ref a3, .int vz, .int (nI pw), .int (nI ph), .int vk])), (a2, .inl (cI, 144, .inl px)), (a3, .inl (cI, 9, .inl md))] H := hP
              have hD : va_D A [(f0, .inr (8, [.ref a1, .ref c1, .ref r1, .ref y1, .ref k1, .ref j1, .int ibc, .int ilc, .int igl, .int ibk, .int ifa, .int ibd])), (c1, .inr (5, [.ref c2, .ref c3, .int vzc, .int (nI pw), .int (nI ph), .int vkc])), (c2, .inl (cI, 144, .inl pxc)), (c3, .inl (cI, 9, .inl mdc)), (a1, .inr (5, [.ref a2, .ref a3, .int vz, .int (nI pw), .int (nI ph), .int vk])), (a2, .inl (cI, 144, .inl px)), (a3, .inl (cI, 9, .inl md))] := hD
              exact W.dret (v := (FP.ddiv (FP.i2d (apY pxc px pw ph)) (FP.i2d (nI (pw * ph))))) hx hb hr (fun t ht hW => ⟨⟨(FP.ddiv (FP.i2d (apY pxc px pw ph)) (FP.i2d (nI (pw * ph)))), [(f0, .inr (8, [.ref a1, .ref c1, .ref r1, .ref y1, .ref k1, .ref j1, .int ibc, .int ilc, .int igl, .int ibk, .int ifa, .int ibd])), (c1, .inr (5, [.ref c2, .ref c3, .int vzc, .int (nI pw), .int (nI ph), .int vkc])), (c2, .inl (cI, 144, .inl pxc)), (c3, .inl (cI, 9, .inl mdc)), (a1, .inr (5, [.ref a2, .ref a3, .int vz, .int (nI pw), .int (nI ph), .int vk])), (a2, .inl (cI, 144, .inl px)), (a3, .inl (cI, 9, .inl md))], rfl, ⟨(rfl), (rfl)⟩, by rw [ht]; exact hP, va_K.moved hW.alike hK, hD⟩, hS.F ht⟩) hS.2.2 d_TileForge_apart_96
            · exact absurd rfl c_79
        · exact absurd c_47 hm2
    · have c_11 := cs_b0 c_11
      exact absurd (by decide) c_11
def q_tf_apart11 (cI : ClassId) (f0 : Nat) (a1 : Nat) (c1 : Nat) (r1 : Nat) (y1 : Nat) (k1 : Nat) (j1 : Nat) (ibc : Int32) (ilc : Int32) (igl : Int32) (ibk : Int32) (ifa : Int32) (ibd : Int32) (c2 : Nat) (c3 : Nat) (pxc : Nat → Int32) (mdc : Nat → Int32) (vzc : Int32) (vkc : Int32) (pw : Nat) (ph : Nat) : UInt64 → va_W → Prop := fun rr ww => rr = (FP.ddiv (FP.i2d (apY pxc pxc pw ph)) (FP.i2d (nI (pw * ph)))) ∧ ww = [(f0, .inr (8, [.ref a1, .ref c1, .ref r1, .ref y1, .ref k1, .ref j1, .int ibc, .int ilc, .int igl, .int ibk, .int ifa, .int ibd])), (c1, .inr (5, [.ref c2, .ref c3, .int vzc, .int (nI pw), .int (nI ph), .int vkc])), (c2, .inl (cI, 144, .inl pxc)), (c3, .inl (cI, 9, .inl mdc))]
set_option maxHeartbeats 4000000 in
set_option maxRecDepth 100000 in
theorem c_tf_apart11 (l : Launch) {D : va_G} {tys : List (ClassId × FieldType)} {cI : ClassId} (hcI : tys[0]? = some (cI, .int)) (f0 : Nat) (a1 : Nat) (c1 : Nat) (r1 : Nat) (y1 : Nat) (k1 : Nat) (j1 : Nat) (ibc : Int32) (ilc : Int32) (igl : Int32) (ibk : Int32) (ifa : Int32) (ibd : Int32) (c2 : Nat) (c3 : Nat) (pxc : Nat → Int32) (mdc : Nat → Int32) (vzc : Int32) (vkc : Int32) (pw : Nat) (ph : Nat) (hm1 : ¬ vzc = 0) (hm2 : ¬ vzc = 0) (hpw : 0 < pw ∧ pw ≤ 12) (hph : 0 < ph ∧ ph ≤ 12) : CsD l D vwCl tys y_TileForge_apart ws_TileForge_apart ({ frames := 3, cells := 0, slots := 0, locals := 70 } : Room) [.ref f0, .int 1, .int 1] [(f0, .inr (8, [.ref a1, .ref c1, .ref r1, .ref y1, .ref k1, .ref j1, .int ibc, .int ilc, .int igl, .int ibk, .int ifa, .int ibd])), (c1, .inr (5, [.ref c2, .ref c3, .int vzc, .int (nI pw), .int (nI ph), .int vkc])), (c2, .inl (cI, 144, .inl pxc)), (c3, .inl (cI, 9, .inl mdc))] (q_tf_apart11 cI f0 a1 c1 r1 y1 k1 j1 ibc ilc igl ibk ifa ibd c2 c3 pxc mdc vzc vkc pw ph) 0 0 := by
  intro sz
  refine Met.ofW (cc := prog_1_method_11_code) (maxL := 5) (ret := (some .double)) (by decide) rfl ?_
  intro p e s m args below meth c s₁ B hml hv
  obtain ⟨rfl, hsz, hP, hK, hD0, hN⟩ := hv
  have hx := B.exec
  have hb := B.bytes
  have hr := B.returns
  have hts := atoms_spec (ws := ws_TileForge_apart) B.pre
  have hown : s.vm.findClass "TileForge" = some m.cls := findClass_of_methodNamed B.named
  have hlocks := B.notSynchronized
  subst hsz
  have hD := hD0.self (sz := s.heap.size)
  generalize hAe : va_A [(f0, .inr (8, [.ref a1, .ref c1, .ref r1, .ref y1, .ref k1, .ref j1, .int ibc, .int ilc, .int igl, .int ibk, .int ifa, .int ibd])), (c1, .inr (5, [.ref c2, .ref c3, .int vzc, .int (nI pw), .int (nI ph), .int vkc])), (c2, .inl (cI, 144, .inl pxc)), (c3, .inl (cI, 9, .inl mdc))] s.heap.size = A at hD ⊢
  have hA : ∀ q : Nat, s.heap.size ≤ q → A q := fun q h => by rw [← hAe]; exact Or.inr h
  have hS : va_S A s.heap s.heap [] := va_S.rf
  have hP : va_P D vwCl [(f0, .inr (8, [.ref a1, .ref c1, .ref r1, .ref y1, .ref k1, .ref j1, .int ibc, .int ilc, .int igl, .int ibk, .int ifa, .int ibd])), (c1, .inr (5, [.ref c2, .ref c3, .int vzc, .int (nI pw), .int (nI ph), .int vkc])), (c2, .inl (cI, 144, .inl pxc)), (c3, .inl (cI, 9, .inl mdc))] s.heap := hP
  have hl := lv_entry ([.ref f0, .int 1, .int 1]) (n := 5) (Nat.le_of_ble_eq_true rfl)
  rw [lg_entry_eq]
  generalize (lg_sl ([.ref f0, .int 1, .int 1]) ++ List.replicate (5 - (lg_sl ([.ref f0, .int 1, .int 1])).length) Slot.unset).toArray = ls at hl ⊢
  have hl : lv_has ls 5 [(0, .ref f0), (1, .int 1), (2, .int 1)] := hl
  refine lv_iload_n hx hb d_TileForge_apart_0 rfl (lv_at hl 1 rfl) ?_
  refine cs_Si (As := [.int 1]) (rest := []) (wr := [(f0, .inr (8, [.ref a1, .ref c1, .ref r1, .ref y1, .ref k1, .ref j1, .int ibc, .int ilc, .int igl, .int ibk, .int ifa, .int ibd])), (c1, .inr (5, [.ref c2, .ref c3, .int vzc, .int (nI pw), .int (nI ph), .int vkc])), (c2, .inl (cI, 144, .inl pxc)), (c3, .inl (cI, 9, .inl mdc))]) ⟨hx, hb, hml, hown, hts⟩ (c_isChoice l hcI 1) (va_cwS 1 hts (cs_gS mw_518 mw_519 mw_139 mw_77) rfl rfl rfl hd_TileForge_isChoice ⟨Nat.le_of_ble_eq_true rfl, Nat.le_of_ble_eq_true rfl⟩) hN hK hP hD hS hA [] [0, 1, 2, 3] rfl rfl rfl rfl (by decide) rfl rfl hl.1 (Nat.le_of_ble_eq_true rfl) d_TileForge_apart_1 ⟨Nat.le_of_ble_eq_true rfl, Nat.le_of_ble_eq_true rfl⟩ (fun r1 w1 H locs hw hP hD hS => ?_)
  obtain ⟨rfl, rfl⟩ := hw
  have hP : va_P D vwCl [(f0, .inr (8, [.ref a1, .ref c1, .ref r1, .ref y1, .ref k1, .ref j1, .int ibc, .int ilc, .int igl, .int ibk, .int ifa, .int ibd])), (c1, .inr (5, [.ref c2, .ref c3, .int vzc, .int (nI pw), .int (nI ph), .int vkc])), (c2, .inl (cI, 144, .inl pxc)), (c3, .inl (cI, 9, .inl mdc))] H := hP
  have hD : va_D A [(f0, .inr (8, [.ref a1, .ref c1, .ref r1, .ref y1, .ref k1, .ref j1, .int ibc, .int ilc, .int igl, .int ibk, .int ifa, .int ibd])), (c1, .inr (5, [.ref c2, .ref c3, .int vzc, .int (nI pw), .int (nI ph), .int vkc])), (c2, .inl (cI, 144, .inl pxc)), (c3, .inl (cI, 9, .inl mdc))] := hD
  refine lv_if_eq (tgt := 14) hx hb d_TileForge_apart_4 (by decide) (fun c_4 => ?_) (fun c_4 => ?_)
  · have c_4 := cs_b0 c_4
    exact absurd (by decide) c_4
  · have c_4 := cs_b1 c_4
    refine lv_iload_n hx hb d_TileForge_apart_7 rfl (lv_at hl 2 rfl) ?_
    refine cs_Si (As := [.int 1]) (rest := []) (wr := [(f0, .inr (8, [.ref a1, .ref c1, .ref r1, .ref y1, .ref k1, .ref j1, .int ibc, .int ilc, .int igl, .int ibk, .int ifa, .int ibd])), (c1, .inr (5, [.ref c2, .ref c3, .int vzc, .int (nI pw), .int (nI ph), .int vkc])), (c2, .inl (cI, 144, .inl pxc)), (c3, .inl (cI, 9, .inl mdc))]) ⟨hx, hb, hml, hown, hts⟩ (c_isChoice l hcI 1) (va_cwS 1 hts (cs_gS mw_518 mw_519 mw_139 mw_77) rfl rfl rfl hd_TileForge_isChoice ⟨Nat.le_of_ble_eq_true rfl, Nat.le_of_ble_eq_true rfl⟩) hN hK hP hD hS hA [] [0, 1, 2, 3] rfl rfl rfl rfl (by decide) rfl rfl hl.1 (Nat.le_of_ble_eq_true rfl) d_TileForge_apart_8 ⟨Nat.le_of_ble_eq_true rfl, Nat.le_of_ble_eq_true rfl⟩ (fun r2 w1 H locs hw hP hD hS => ?_)
    obtain ⟨rfl, rfl⟩ := hw
    have hP : va_P D vwCl [(f0, .inr (8, [.ref a1, .ref c1, .ref r1, .ref y1, .ref k1, .ref j1, .int ibc, .int ilc, .int igl, .int ibk, .int ifa, .int ibd])), (c1, .inr (5, [.ref c2, .ref c3, .int vzc, .int (nI pw), .int (nI ph), .int vkc])), (c2, .inl (cI, 144, .inl pxc)), (c3, .inl (cI, 9, .inl mdc))] H := hP
    have hD : va_D A [(f0, .inr (8, [.ref a1, .ref c1, .ref r1, .ref y1, .ref k1, .ref j1, .int ibc, .int ilc, .int igl, .int ibk, .int ifa, .int ibd])), (c1, .inr (5, [.ref c2, .ref c3, .int vzc, .int (nI pw), .int (nI ph), .int vkc])), (c2, .inl (cI, 144, .inl pxc)), (c3, .inl (cI, 9, .inl mdc))] := hD
    refine lv_if_ne (tgt := 22) hx hb d_TileForge_apart_11 (by decide) (fun c_11 => ?_) (fun c_11 => ?_)
    · have c_11 := cs_b1 c_11
      refine lv_aload_n hx hb d_TileForge_apart_22 rfl (lv_at hl 0 rfl) ?_
      refine lv_iload_n hx hb d_TileForge_apart_23 rfl (lv_at hl 1 rfl) ?_
      refine cs_Vr (As := [.int 1]) (rest := []) (wr := [(c1, .inr (5, [.ref c2, .ref c3, .int vzc, .int (nI pw), .int (nI ph), .int vkc])), (c2, .inl (cI, 144, .inl pxc)), (c3, .inl (cI, 9, .inl mdc))]) ⟨hx, hb, hml, hown, hts⟩ (c_tf_choose1 l hcI f0 a1 c1 r1 y1 k1 j1 ibc ilc igl ibk ifa ibd) (cwV 1 hts (cs_gV mw_520 mw_521 mw_522 mw_139 mw_472) rfl rfl rfl ⟨rfl, hd_TileForge_choose⟩ ⟨Nat.le_of_ble_eq_true rfl, Nat.le_of_ble_eq_true rfl⟩) hN hK hP hD hS hA [0] [1, 2, 3] rfl rfl rfl rfl (by decide) (ci := 8) rfl rfl rfl rfl rfl hl.1 (Nat.le_of_ble_eq_true rfl) d_TileForge_apart_24 ⟨Nat.le_of_ble_eq_true rfl, Nat.le_of_ble_eq_true rfl⟩ (fun r3 w1 H locs hw hP hD hS => ?_)
      obtain ⟨hrr, rfl⟩ := hw
      have hrr := hrr.symm
      subst hrr
      have hP : va_P D vwCl [(c1, .inr (5, [.ref c2, .ref c3, .int vzc, .int (nI pw), .int (nI ph), .int vkc])), (c2, .inl (cI, 144, .inl pxc)), (c3, .inl (cI, 9, .inl mdc)), (f0, .inr (8, [.ref a1, .ref c1, .ref r1, .ref y1, .ref k1, .ref j1, .int ibc, .int ilc, .int igl, .int ibk, .int ifa, .int ibd]))] H := hP
      have hD : va_D A [(c1, .inr (5, [.ref c2, .ref c3, .int vzc, .int (nI pw), .int (nI ph), .int vkc])), (c2, .inl (cI, 144, .inl pxc)), (c3, .inl (cI, 9, .inl mdc)), (f0, .inr (8, [.ref a1, .ref c1, .ref r1, .ref y1, .ref k1, .ref j1, .int ibc, .int ilc, .int igl, .int ibk, .int ifa, .int ibd]))] := hD
      refine lv_astore_n (lv' := [(3, .ref c1), (0, .ref f0), (1, .int 1), (2, .int 1)]) hx hb d_TileForge_apart_27 rfl hl (by decide) rfl (fun ls hl => ?_)
      refine lv_aload_n hx hb d_TileForge_apart_28 rfl (lv_at hl 1 rfl) ?_
      refine lv_iload_n hx hb d_TileForge_apart_29 rfl (lv_at hl 3 rfl) ?_
      refine cs_Vr (As := [.int 1]) (rest := []) (wr := [(c1, .inr (5, [.ref c2, .ref c3, .int vzc, .int (nI pw), .int (nI ph), .int vkc])), (c2, .inl (cI, 144, .inl pxc)), (c3, .inl (cI, 9, .inl mdc))]) ⟨hx, hb, hml, hown, hts⟩ (c_tf_choose1 l hcI f0 a1 c1 r1 y1 k1 j1 ibc ilc igl ibk ifa ibd) (cwV 1 hts (cs_gV mw_520 mw_521 mw_522 mw_139 mw_472) rfl rfl rfl ⟨rfl, hd_TileForge_choose⟩ ⟨Nat.le_of_ble_eq_true rfl, Nat.le_of_ble_eq_true rfl⟩) hN hK hP hD hS hA [3] [0, 1, 2] rfl rfl rfl rfl (by decide) (ci := 8) rfl rfl rfl rfl rfl hl.1 (Nat.le_of_ble_eq_true rfl) d_TileForge_apart_30 ⟨Nat.le_of_ble_eq_true rfl, Nat.le_of_ble_eq_true rfl⟩ (fun r4 w1 H locs hw hP hD hS => ?_)
      obtain ⟨hrr, rfl⟩ := hw
      have hrr := hrr.symm
      subst hrr
      have hP : va_P D vwCl [(c1, .inr (5, [.ref c2, .ref c3, .int vzc, .int (nI pw), .int (nI ph), .int vkc])), (c2, .inl (cI, 144, .inl pxc)), (c3, .inl (cI, 9, .inl mdc)), (f0, .inr (8, [.ref a1, .ref c1, .ref r1, .ref y1, .ref k1, .ref j1, .int ibc, .int ilc, .int igl, .int ibk, .int ifa, .int ibd]))] H := hP
      have hD : va_D A [(c1, .inr (5, [.ref c2, .ref c3, .int vzc, .int (nI pw), .int (nI ph), .int vkc])), (c2, .inl (cI, 144, .inl pxc)), (c3, .inl (cI, 9, .inl mdc)), (f0, .inr (8, [.ref a1, .ref c1, .ref r1, .ref y1, .ref k1, .ref j1, .int ibc, .int ilc, .int igl, .int ibk, .int ifa, .int ibd]))] := hD
      refine lv_astore (lv' := [(4, .ref c1), (3, .ref c1), (0, .ref f0), (1, .int 1), (2, .int 1)]) hx hb d_TileForge_apart_33 hl (by decide) rfl (fun ls hl => ?_)
      refine lv_aload_n hx hb d_TileForge_apart_35 rfl (lv_at hl 1 rfl) ?_
      refine va_get (D := D) (ci := 5) (v := .int vzc) (C := "TileForge$Picture") (T := T_Picture) (N := 6) hx hb hts (cs_in in_Picture) hown hK hP 0 rfl rfl 2 (by decide) (hts _ (cs_m mw_523)) (fun _ h9 => h9) rfl d_TileForge_apart_36 ?_
      refine lv_if_eq (tgt := 50) hx hb d_TileForge_apart_39 (by decide) (fun c_39 => ?_) (fun c_39 => ?_)
      · exact absurd c_39 hm1
      · refine lv_aload hx hb d_TileForge_apart_42 (lv_at hl 0 rfl) ?_
        refine va_get (D := D) (ci := 5) (v := .int vzc) (C := "TileForge$Picture") (T := T_Picture) (N := 6) hx hb hts (cs_in in_Picture) hown hK hP 0 rfl rfl 2 (by decide) (hts _ (cs_m mw_523)) (fun _ h9 => h9) rfl d_TileForge_apart_44 ?_
        refine lv_if_ne (tgt := 58) hx hb d_TileForge_apart_47 (by decide) (fun c_47 => ?_) (fun c_47 => ?_)
        · refine lv_aload_n hx hb d_TileForge_apart_58 rfl (lv_at hl 1 rfl) ?_
          refine va_get (D := D) (ci := 5) (v := .int (nI pw)) (C := "TileForge$Picture") (T := T_Picture) (N := 6) hx hb hts (cs_in in_Picture) hown hK hP 0 rfl rfl 3 (by decide) (hts _ (cs_m mw_478)) (fun _ h9 => h9) rfl d_TileForge_apart_59 ?_
          refine lv_aload hx hb d_TileForge_apart_62 (lv_at hl 0 rfl) ?_
          refine va_get (D := D) (ci := 5) (v := .int (nI pw)) (C := "TileForge$Picture") (T := T_Picture) (N := 6) hx hb hts (cs_in in_Picture) hown hK hP 0 rfl rfl 3 (by decide) (hts _ (cs_m mw_478)) (fun _ h9 => h9) rfl d_TileForge_apart_64 ?_
          refine lv_icmp_ne (tgt := 82) hx hb d_TileForge_apart_67 (by decide) (fun c_67 => ?_) (fun c_67 => ?_)
          · exact absurd rfl c_67
          · refine lv_aload_n hx hb d_TileForge_apart_70 rfl (lv_at hl 1 rfl) ?_
            refine va_get (D := D) (ci := 5) (v := .int (nI ph)) (C := "TileForge$Picture") (T := T_Picture) (N := 6) hx hb hts (cs_in in_Picture) hown hK hP 0 rfl rfl 4 (by decide) (hts _ (cs_m mw_477)) (fun _ h9 => h9) rfl d_TileForge_apart_71 ?_
            refine lv_aload hx hb d_TileForge_apart_74 (lv_at hl 0 rfl) ?_
            refine va_get (D := D) (ci := 5) (v := .int (nI ph)) (C := "TileForge$Picture") (T := T_Picture) (N := 6) hx hb hts (cs_in in_Picture) hown hK hP 0 rfl rfl 4 (by decide) (hts _ (cs_m mw_477)) (fun _ h9 => h9) rfl d_TileForge_apart_76 ?_
            refine lv_icmp_eq (tgt := 90) hx hb d_TileForge_apart_79 (by decide) (fun c_79 => ?_) (fun c_79 => ?_)
            · refine lv_aload_n hx hb d_TileForge_apart_90 rfl (lv_at hl 1 rfl) ?_
              refine lv_aload hx hb d_TileForge_apart_91 (lv_at hl 0 rfl) ?_
              refine cs_Sd (As := [.ref c1, .ref c1]) (rest := []) (wr := [(f0, .inr (8, [.ref a1, .ref c1, .ref r1, .ref y1, .ref k1, .ref j1, .int ibc, .int ilc, .int igl, .int ibk, .int ifa, .int ibd]))]) ⟨hx, hb, hml, hown, hts⟩ (c_tf_mos1 l hcI c1 c2 c3 pxc mdc vzc vkc pw ph (hpw) (hph)) (va_cwS 2 hts (cs_gS mw_525 mw_526 mw_139 mw_476) rfl rfl rfl hd_TileForge_meanOfSquares ⟨Nat.le_of_ble_eq_true rfl, Nat.le_of_ble_eq_true rfl⟩) hN hK hP hD hS hA [0, 1, 2] [3] rfl rfl rfl rfl (by decide) rfl rfl hl.1 (Nat.le_of_ble_eq_true rfl) d_TileForge_apart_93 ⟨Nat.le_of_ble_eq_true rfl, Nat.le_of_ble_eq_true rfl⟩ (fun r5 w1 H locs hw hP hD hS => ?_)
              obtain ⟨rfl, rfl⟩ := hw
              have hP : va_P D vwCl [(f0, .inr (8, [.ref a1, .ref c1, .ref r1, .ref y1, .ref k1, .ref j1, .int ibc, .int ilc, .int igl, .int ibk, .int ifa, .int ibd])), (c1, .inr (5, [.ref c2, .ref c3, .int vzc, .int (nI pw), .int (nI ph), .int vkc])), (c2, .inl (cI, 144, .inl pxc)), (c3, .inl (cI, 9, .inl mdc))] H := hP
              have hD : va_D A [(f0, .inr (8, [.ref a1, .ref c1, .ref r1, .ref y1, .ref k1, .ref j1, .int ibc, .int ilc, .int igl, .int ibk, .int ifa, .int ibd])), (c1, .inr (5, [.ref c2, .ref c3, .int vzc, .int (nI pw), .int (nI ph), .int vkc])), (c2, .inl (cI, 144, .inl pxc)), (c3, .inl (cI, 9, .inl mdc))] := hD
              exact W.dret (v := (FP.ddiv (FP.i2d (apY pxc pxc pw ph)) (FP.i2d (nI (pw * ph))))) hx hb hr (fun t ht hW => ⟨⟨(FP.ddiv (FP.i2d (apY pxc pxc pw ph)) (FP.i2d (nI (pw * ph)))), [(f0, .inr (8, [.ref a1, .ref c1, .ref r1, .ref y1, .ref k1, .ref j1, .int ibc, .int ilc, .int igl, .int ibk, .int ifa, .int ibd])), (c1, .inr (5, [.ref c2, .ref c3, .int vzc, .int (nI pw), .int (nI ph), .int vkc])), (c2, .inl (cI, 144, .inl pxc)), (c3, .inl (cI, 9, .inl mdc))], rfl, ⟨(rfl), (rfl)⟩, by rw [ht]; exact hP, va_K.moved hW.alike hK, hD⟩, hS.F ht⟩) hS.2.2 d_TileForge_apart_96
            · exact absurd rfl c_79
        · exact absurd c_47 hm2
    · have c_11 := cs_b0 c_11
      exact absurd (by decide) c_11
def q_tf_apart12 (cI : ClassId) (f0 : Nat) (a1 : Nat) (c1 : Nat) (r1 : Nat) (y1 : Nat) (k1 : Nat) (j1 : Nat) (ibc : Int32) (ilc : Int32) (igl : Int32) (ibk : Int32) (ifa : Int32) (ibd : Int32) (c2 : Nat) (c3 : Nat) (pxc : Nat → Int32) (mdc : Nat → Int32) (vzc : Int32) (vkc : Int32) (r2 : Nat) (r3 : Nat) (pxr : Nat → Int32) (mdr : Nat → Int32) (vzr : Int32) (vkr : Int32) (pw : Nat) (ph : Nat) : UInt64 → va_W → Prop := fun rr ww => rr = (FP.ddiv (FP.i2d (apY pxc pxr pw ph)) (FP.i2d (nI (pw * ph)))) ∧ ww = [(f0, .inr (8, [.ref a1, .ref c1, .ref r1, .ref y1, .ref k1, .ref j1, .int ibc, .int ilc, .int igl, .int ibk, .int ifa, .int ibd])), (c1, .inr (5, [.ref c2, .ref c3, .int vzc, .int (nI pw), .int (nI ph), .int vkc])), (c2, .inl (cI, 144, .inl pxc)), (c3, .inl (cI, 9, .inl mdc)), (r1, .inr (5, [.ref r2, .ref r3, .int vzr, .int (nI pw), .int (nI ph), .int vkr])), (r2, .inl (cI, 144, .inl pxr)), (r3, .inl (cI, 9, .inl mdr))]
set_option maxHeartbeats 4000000 in
set_option maxRecDepth 100000 in
theorem c_tf_apart12 (l : Launch) {D : va_G} {tys : List (ClassId × FieldType)} {cI : ClassId} (hcI : tys[0]? = some (cI, .int)) (f0 : Nat) (a1 : Nat) (c1 : Nat) (r1 : Nat) (y1 : Nat) (k1 : Nat) (j1 : Nat) (ibc : Int32) (ilc : Int32) (igl : Int32) (ibk : Int32) (ifa : Int32) (ibd : Int32) (c2 : Nat) (c3 : Nat) (pxc : Nat → Int32) (mdc : Nat → Int32) (vzc : Int32) (vkc : Int32) (r2 : Nat) (r3 : Nat) (pxr : Nat → Int32) (mdr : Nat → Int32) (vzr : Int32) (vkr : Int32) (pw : Nat) (ph : Nat) (hm1 : ¬ vzc = 0) (hm2 : ¬ vzr = 0) (hpw : 0 < pw ∧ pw ≤ 12) (hph : 0 < ph ∧ ph ≤ 12) : CsD l D vwCl tys y_TileForge_apart ws_TileForge_apart ({ frames := 3, cells := 0, slots := 0, locals := 70 } : Room) [.ref f0, .int 1, .int 2] [(f0, .inr (8, [.ref a1, .ref c1, .ref r1, .ref y1, .ref k1, .ref j1, .int ibc, .int ilc, .int igl, .int ibk, .int ifa, .int ibd])), (c1, .inr (5, [.ref c2, .ref c3, .int vzc, .int (nI pw), .int (nI ph), .int vkc])), (c2, .inl (cI, 144, .inl pxc)), (c3, .inl (cI, 9, .inl mdc)), (r1, .inr (5, [.ref r2, .ref r3, .int vzr, .int (nI pw), .int (nI ph), .int vkr])), (r2, .inl (cI, 144, .inl pxr)), (r3, .inl (cI, 9, .inl mdr))] (q_tf_apart12 cI f0 a1 c1 r1 y1 k1 j1 ibc ilc igl ibk ifa ibd c2 c3 pxc mdc vzc vkc r2 r3 pxr mdr vzr vkr pw ph) 0 0 := by
  intro sz
  refine Met.ofW (cc := prog_1_method_11_code) (maxL := 5) (ret := (some .double)) (by decide) rfl ?_
  intro p e s m args below meth c s₁ B hml hv
  obtain ⟨rfl, hsz, hP, hK, hD0, hN⟩ := hv
  have hx := B.exec
  have hb := B.bytes
  have hr := B.returns
  have hts := atoms_spec (ws := ws_TileForge_apart) B.pre
  have hown : s.vm.findClass "TileForge" = some m.cls := findClass_of_methodNamed B.named
  have hlocks := B.notSynchronized
  subst hsz
  have hD := hD0.self (sz := s.heap.size)
  generalize hAe : va_A [(f0, .inr (8, [.ref a1, .ref c1, .ref r1, .ref y1, .ref k1, .ref j1, .int ibc, .int ilc, .int igl, .int ibk, .int ifa, .int ibd])), (c1, .inr (5, [.ref c2, .ref c3, .int vzc, .int (nI pw), .int (nI ph), .int vkc])), (c2, .inl (cI, 144, .inl pxc)), (c3, .inl (cI, 9, .inl mdc)), (r1, .inr (5, [.ref r2, .ref r3, .int vzr, .int (nI pw), .int (nI ph), .int vkr])), (r2, .inl (cI, 144, .inl pxr)), (r3, .inl (cI, 9, .inl mdr))] s.heap.size = A at hD ⊢
  have hA : ∀ q : Nat, s.heap.size ≤ q → A q := fun q h => by rw [← hAe]; exact Or.inr h
  have hS : va_S A s.heap s.heap [] := va_S.rf
  have hP : va_P D vwCl [(f0, .inr (8, [.ref a1, .ref c1, .ref r1, .ref y1, .ref k1, .ref j1, .int ibc, .int ilc, .int igl, .int ibk, .int ifa, .int ibd])), (c1, .inr (5, [.ref c2, .ref c3, .int vzc, .int (nI pw), .int (nI ph), .int vkc])), (c2, .inl (cI, 144, .inl pxc)), (c3, .inl (cI, 9, .inl mdc)), (r1, .inr (5, [.ref r2, .ref r3, .int vzr, .int (nI pw), .int (nI ph), .int vkr])), (r2, .inl (cI, 144, .inl pxr)), (r3, .inl (cI, 9, .inl mdr))] s.heap := hP
  have hl := lv_entry ([.ref f0, .int 1, .int 2]) (n := 5) (Nat.le_of_ble_eq_true rfl)
  rw [lg_entry_eq]
  generalize (lg_sl ([.ref f0, .int 1, .int 2]) ++ List.replicate (5 - (lg_sl ([.ref f0, .int 1, .int 2])).length) Slot.unset).toArray = ls at hl ⊢
  have hl : lv_has ls 5 [(0, .ref f0), (1, .int 1), (2, .int 2)] := hl
  refine lv_iload_n hx hb d_TileForge_apart_0 rfl (lv_at hl 1 rfl) ?_
  refine cs_Si (As := [.int 1]) (rest := []) (wr := [(f0, .inr (8, [.ref a1, .ref c1, .ref r1, .ref y1, .ref k1, .ref j1, .int ibc, .int ilc, .int igl, .int ibk, .int ifa, .int ibd])), (c1, .inr (5, [.ref c2, .ref c3, .int vzc, .int (nI pw), .int (nI ph), .int vkc])), (c2, .inl (cI, 144, .inl pxc)), (c3, .inl (cI, 9, .inl mdc)), (r1, .inr (5, [.ref r2, .ref r3, .int vzr, .int (nI pw), .int (nI ph), .int vkr])), (r2, .inl (cI, 144, .inl pxr)), (r3, .inl (cI, 9, .inl mdr))]) ⟨hx, hb, hml, hown, hts⟩ (c_isChoice l hcI 1) (va_cwS 1 hts (cs_gS mw_518 mw_519 mw_139 mw_77) rfl rfl rfl hd_TileForge_isChoice ⟨Nat.le_of_ble_eq_true rfl, Nat.le_of_ble_eq_true rfl⟩) hN hK hP hD hS hA [] [0, 1, 2, 3, 4, 5, 6] rfl rfl rfl rfl (by decide) rfl rfl hl.1 (Nat.le_of_ble_eq_true rfl) d_TileForge_apart_1 ⟨Nat.le_of_ble_eq_true rfl, Nat.le_of_ble_eq_true rfl⟩ (fun r1 w1 H locs hw hP hD hS => ?_)
  obtain ⟨rfl, rfl⟩ := hw
  have hP : va_P D vwCl [(f0, .inr (8, [.ref a1, .ref c1, .ref r1, .ref y1, .ref k1, .ref j1, .int ibc, .int ilc, .int igl, .int ibk, .int ifa, .int ibd])), (c1, .inr (5, [.ref c2, .ref c3, .int vzc, .int (nI pw), .int (nI ph), .int vkc])), (c2, .inl (cI, 144, .inl pxc)), (c3, .inl (cI, 9, .inl mdc)), (r1, .inr (5, [.ref r2, .ref r3, .int vzr, .int (nI pw), .int (nI ph), .int vkr])), (r2, .inl (cI, 144, .inl pxr)), (r3, .inl (cI, 9, .inl mdr))] H := hP
  have hD : va_D A [(f0, .inr (8, [.ref a1, .ref c1, .ref r1, .ref y1, .ref k1, .ref j1, .int ibc, .int ilc, .int igl, .int ibk, .int ifa, .int ibd])), (c1, .inr (5, [.ref c2, .ref c3, .int vzc, .int (nI pw), .int (nI ph), .int vkc])), (c2, .inl (cI, 144, .inl pxc)), (c3, .inl (cI, 9, .inl mdc)), (r1, .inr (5, [.ref r2, .ref r3, .int vzr, .int (nI pw), .int (nI ph), .int vkr])), (r2, .inl (cI, 144, .inl pxr)), (r3, .inl (cI, 9, .inl mdr))] := hD
  refine lv_if_eq (tgt := 14) hx hb d_TileForge_apart_4 (by decide) (fun c_4 => ?_) (fun c_4 => ?_)
  · have c_4 := cs_b0 c_4
    exact absurd (by decide) c_4
  · have c_4 := cs_b1 c_4
    refine lv_iload_n hx hb d_TileForge_apart_7 rfl (lv_at hl 2 rfl) ?_
    refine cs_Si (As := [.int 2]) (rest := []) (wr := [(f0, .inr (8, [.ref a1, .ref c1, .ref r1, .ref y1, .ref k1, .ref j1, .int ibc, .int ilc, .int igl, .int ibk, .int ifa, .int ibd])), (c1, .inr (5, [.ref c2, .ref c3, .int vzc, .int (nI pw), .int (nI ph), .int vkc])), (c2, .inl (cI, 144, .inl pxc)), (c3, .inl (cI, 9, .inl mdc)), (r1, .inr (5, [.ref r2, .ref r3, .int vzr, .int (nI pw), .int (nI ph), .int vkr])), (r2, .inl (cI, 144, .inl pxr)), (r3, .inl (cI, 9, .inl mdr))]) ⟨hx, hb, hml, hown, hts⟩ (c_isChoice l hcI 2) (va_cwS 1 hts (cs_gS mw_518 mw_519 mw_139 mw_77) rfl rfl rfl hd_TileForge_isChoice ⟨Nat.le_of_ble_eq_true rfl, Nat.le_of_ble_eq_true rfl⟩) hN hK hP hD hS hA [] [0, 1, 2, 3, 4, 5, 6] rfl rfl rfl rfl (by decide) rfl rfl hl.1 (Nat.le_of_ble_eq_true rfl) d_TileForge_apart_8 ⟨Nat.le_of_ble_eq_true rfl, Nat.le_of_ble_eq_true rfl⟩ (fun r2 w1 H locs hw hP hD hS => ?_)
    obtain ⟨rfl, rfl⟩ := hw
    have hP : va_P D vwCl [(f0, .inr (8, [.ref a1, .ref c1, .ref r1, .ref y1, .ref k1, .ref j1, .int ibc, .int ilc, .int igl, .int ibk, .int ifa, .int ibd])), (c1, .inr (5, [.ref c2, .ref c3, .int vzc, .int (nI pw), .int (nI ph), .int vkc])), (c2, .inl (cI, 144, .inl pxc)), (c3, .inl (cI, 9, .inl mdc)), (r1, .inr (5, [.ref r2, .ref r3, .int vzr, .int (nI pw), .int (nI ph), .int vkr])), (r2, .inl (cI, 144, .inl pxr)), (r3, .inl (cI, 9, .inl mdr))] H := hP
    have hD : va_D A [(f0, .inr (8, [.ref a1, .ref c1, .ref r1, .ref y1, .ref k1, .ref j1, .int ibc, .int ilc, .int igl, .int ibk, .int ifa, .int ibd])), (c1, .inr (5, [.ref c2, .ref c3, .int vzc, .int (nI pw), .int (nI ph), .int vkc])), (c2, .inl (cI, 144, .inl pxc)), (c3, .inl (cI, 9, .inl mdc)), (r1, .inr (5, [.ref r2, .ref r3, .int vzr, .int (nI pw), .int (nI ph), .int vkr])), (r2, .inl (cI, 144, .inl pxr)), (r3, .inl (cI, 9, .inl mdr))] := hD
    refine lv_if_ne (tgt := 22) hx hb d_TileForge_apart_11 (by decide) (fun c_11 => ?_) (fun c_11 => ?_)
    · have c_11 := cs_b1 c_11
      refine lv_aload_n hx hb d_TileForge_apart_22 rfl (lv_at hl 0 rfl) ?_
      refine lv_iload_n hx hb d_TileForge_apart_23 rfl (lv_at hl 1 rfl) ?_
      refine cs_Vr (As := [.int 1]) (rest := []) (wr := [(c1, .inr (5, [.ref c2, .ref c3, .int vzc, .int (nI pw), .int (nI ph), .int vkc])), (c2, .inl (cI, 144, .inl pxc)), (c3, .inl (cI, 9, .inl mdc)), (r1, .inr (5, [.ref r2, .ref r3, .int vzr, .int (nI pw), .int (nI ph), .int vkr])), (r2, .inl (cI, 144, .inl pxr)), (r3, .inl (cI, 9, .inl mdr))]) ⟨hx, hb, hml, hown, hts⟩ (c_tf_choose1 l hcI f0 a1 c1 r1 y1 k1 j1 ibc ilc igl ibk ifa ibd) (cwV 1 hts (cs_gV mw_520 mw_521 mw_522 mw_139 mw_472) rfl rfl rfl ⟨rfl, hd_TileForge_choose⟩ ⟨Nat.le_of_ble_eq_true rfl, Nat.le_of_ble_eq_true rfl⟩) hN hK hP hD hS hA [0] [1, 2, 3, 4, 5, 6] rfl rfl rfl rfl (by decide) (ci := 8) rfl rfl rfl rfl rfl hl.1 (Nat.le_of_ble_eq_true rfl) d_TileForge_apart_24 ⟨Nat.le_of_ble_eq_true rfl, Nat.le_of_ble_eq_true rfl⟩ (fun r3 w1 H locs hw hP hD hS => ?_)
      obtain ⟨hrr, rfl⟩ := hw
      have hrr := hrr.symm
      subst hrr
      have hP : va_P D vwCl [(c1, .inr (5, [.ref c2, .ref c3, .int vzc, .int (nI pw), .int (nI ph), .int vkc])), (c2, .inl (cI, 144, .inl pxc)), (c3, .inl (cI, 9, .inl mdc)), (r1, .inr (5, [.ref r2, .ref r3, .int vzr, .int (nI pw), .int (nI ph), .int vkr])), (r2, .inl (cI, 144, .inl pxr)), (r3, .inl (cI, 9, .inl mdr)), (f0, .inr (8, [.ref a1, .ref c1, .ref r1, .ref y1, .ref k1, .ref j1, .int ibc, .int ilc, .int igl, .int ibk, .int ifa, .int ibd]))] H := hP
      have hD : va_D A [(c1, .inr (5, [.ref c2, .ref c3, .int vzc, .int (nI pw), .int (nI ph), .int vkc])), (c2, .inl (cI, 144, .inl pxc)), (c3, .inl (cI, 9, .inl mdc)), (r1, .inr (5, [.ref r2, .ref r3, .int vzr, .int (nI pw), .int (nI ph), .int vkr])), (r2, .inl (cI, 144, .inl pxr)), (r3, .inl (cI, 9, .inl mdr)), (f0, .inr (8, [.ref a1, .ref c1, .ref r1, .ref y1, .ref k1, .ref j1, .int ibc, .int ilc, .int igl, .int ibk, .int ifa, .int ibd]))] := hD
      refine lv_astore_n (lv' := [(3, .ref c1), (0, .ref f0), (1, .int 1), (2, .int 2)]) hx hb d_TileForge_apart_27 rfl hl (by decide) rfl (fun ls hl => ?_)
      refine lv_aload_n hx hb d_TileForge_apart_28 rfl (lv_at hl 1 rfl) ?_
      refine lv_iload_n hx hb d_TileForge_apart_29 rfl (lv_at hl 3 rfl) ?_
      refine cs_Vr (As := [.int 2]) (rest := []) (wr := [(c1, .inr (5, [.ref c2, .ref c3, .int vzc, .int (nI pw), .int (nI ph), .int vkc])), (c2, .inl (cI, 144, .inl pxc)), (c3, .inl (cI, 9, .inl mdc)), (r1, .inr (5, [.ref r2, .ref r3, .int vzr, .int (nI pw), .int (nI ph), .int vkr])), (r2, .inl (cI, 144, .inl pxr)), (r3, .inl (cI, 9, .inl mdr))]) ⟨hx, hb, hml, hown, hts⟩ (c_tf_choose2 l hcI f0 a1 c1 r1 y1 k1 j1 ibc ilc igl ibk ifa ibd) (cwV 1 hts (cs_gV mw_520 mw_521 mw_522 mw_139 mw_472) rfl rfl rfl ⟨rfl, hd_TileForge_choose⟩ ⟨Nat.le_of_ble_eq_true rfl, Nat.le_of_ble_eq_true rfl⟩) hN hK hP hD hS hA [6] [0, 1, 2, 3, 4, 5] rfl rfl rfl rfl (by decide) (ci := 8) rfl rfl rfl rfl rfl hl.1 (Nat.le_of_ble_eq_true rfl) d_TileForge_apart_30 ⟨Nat.le_of_ble_eq_true rfl, Nat.le_of_ble_eq_true rfl⟩ (fun r4 w1 H locs hw hP hD hS => ?_)
      obtain ⟨hrr, rfl⟩ := hw
      have hrr := hrr.symm
      subst hrr
      have hP : va_P D vwCl [(c1, .inr (5, [.ref c2, .ref c3, .int vzc, .int (nI pw), .int (nI ph), .int vkc])), (c2, .inl (cI, 144, .inl pxc)), (c3, .inl (cI, 9, .inl mdc)), (r1, .inr (5, [.ref r2, .ref r3, .int vzr, .int (nI pw), .int (nI ph), .int vkr])), (r2, .inl (cI, 144, .inl pxr)), (r3, .inl (cI, 9, .inl mdr)), (f0, .inr (8, [.ref a1, .ref c1, .ref r1, .ref y1, .ref k1, .ref j1, .int ibc, .int ilc, .int igl, .int ibk, .int ifa, .int ibd]))] H := hP
      have hD : va_D A [(c1, .inr (5, [.ref c2, .ref c3, .int vzc, .int (nI pw), .int (nI ph), .int vkc])), (c2, .inl (cI, 144, .inl pxc)), (c3, .inl (cI, 9, .inl mdc)), (r1, .inr (5, [.ref r2, .ref r3, .int vzr, .int (nI pw), .int (nI ph), .int vkr])), (r2, .inl (cI, 144, .inl pxr)), (r3, .inl (cI, 9, .inl mdr)), (f0, .inr (8, [.ref a1, .ref c1, .ref r1, .ref y1, .ref k1, .ref j1, .int ibc, .int ilc, .int igl, .int ibk, .int ifa, .int ibd]))] := hD
      refine lv_astore (lv' := [(4, .ref r1), (3, .ref c1), (0, .ref f0), (1, .int 1), (2, .int 2)]) hx hb d_TileForge_apart_33 hl (by decide) rfl (fun ls hl => ?_)
      refine lv_aload_n hx hb d_TileForge_apart_35 rfl (lv_at hl 1 rfl) ?_
      refine va_get (D := D) (ci := 5) (v := .int vzc) (C := "TileForge$Picture") (T := T_Picture) (N := 6) hx hb hts (cs_in in_Picture) hown hK hP 0 rfl rfl 2 (by decide) (hts _ (cs_m mw_523)) (fun _ h9 => h9) rfl d_TileForge_apart_36 ?_
      refine lv_if_eq (tgt := 50) hx hb d_TileForge_apart_39 (by decide) (fun c_39 => ?_) (fun c_39 => ?_)
      · exact absurd c_39 hm1
      · refine lv_aload hx hb d_TileForge_apart_42 (lv_at hl 0 rfl) ?_
        refine va_get (D := D) (ci := 5) (v := .int vzr) (C := "TileForge$Picture") (T := T_Picture) (N := 6) hx hb hts (cs_in in_Picture) hown hK hP 3 rfl rfl 2 (by decide) (hts _ (cs_m mw_523)) (fun _ h9 => h9) rfl d_TileForge_apart_44 ?_
        refine lv_if_ne (tgt := 58) hx hb d_TileForge_apart_47 (by decide) (fun c_47 => ?_) (fun c_47 => ?_)
        · refine lv_aload_n hx hb d_TileForge_apart_58 rfl (lv_at hl 1 rfl) ?_
          refine va_get (D := D) (ci := 5) (v := .int (nI pw)) (C := "TileForge$Picture") (T := T_Picture) (N := 6) hx hb hts (cs_in in_Picture) hown hK hP 0 rfl rfl 3 (by decide) (hts _ (cs_m mw_478)) (fun _ h9 => h9) rfl d_TileForge_apart_59 ?_
          refine lv_aload hx hb d_TileForge_apart_62 (lv_at hl 0 rfl) ?_
          refine va_get (D := D) (ci := 5) (v := .int (nI pw)) (C := "TileForge$Picture") (T := T_Picture) (N := 6) hx hb hts (cs_in in_Picture) hown hK hP 3 rfl rfl 3 (by decide) (hts _ (cs_m mw_478)) (fun _ h9 => h9) rfl d_TileForge_apart_64 ?_
          refine lv_icmp_ne (tgt := 82) hx hb d_TileForge_apart_67 (by decide) (fun c_67 => ?_) (fun c_67 => ?_)
          · exact absurd rfl c_67
          · refine lv_aload_n hx hb d_TileForge_apart_70 rfl (lv_at hl 1 rfl) ?_
            refine va_get (D := D) (ci := 5) (v := .int (nI ph)) (C := "TileForge$Picture") (T := T_Picture) (N := 6) hx hb hts (cs_in in_Picture) hown hK hP 0 rfl rfl 4 (by decide) (hts _ (cs_m mw_477)) (fun _ h9 => h9) rfl d_TileForge_apart_71 ?_
            refine lv_aload hx hb d_TileForge_apart_74 (lv_at hl 0 rfl) ?_
            refine va_get (D := D) (ci := 5) (v := .int (nI ph)) (C := "TileForge$Picture") (T := T_Picture) (N := 6) hx hb hts (cs_in in_Picture) hown hK hP 3 rfl rfl 4 (by decide) (hts _ (cs_m mw_477)) (fun _ h9 => h9) rfl d_TileForge_apart_76 ?_
            refine lv_icmp_eq (tgt := 90) hx hb d_TileForge_apart_79 (by decide) (fun c_79 => ?_) (fun c_79 => ?_)
            · refine lv_aload_n hx hb d_TileForge_apart_90 rfl (lv_at hl 1 rfl) ?_
              refine lv_aload hx hb d_TileForge_apart_91 (lv_at hl 0 rfl) ?_
              refine cs_Sd (As := [.ref c1, .ref r1]) (rest := []) (wr := [(f0, .inr (8, [.ref a1, .ref c1, .ref r1, .ref y1, .ref k1, .ref j1, .int ibc, .int ilc, .int igl, .int ibk, .int ifa, .int ibd]))]) ⟨hx, hb, hml, hown, hts⟩ (c_tf_mos2 l hcI c1 c2 c3 pxc mdc vzc vkc r1 r2 r3 pxr mdr vzr vkr pw ph (hpw) (hph)) (va_cwS 2 hts (cs_gS mw_525 mw_526 mw_139 mw_476) rfl rfl rfl hd_TileForge_meanOfSquares ⟨Nat.le_of_ble_eq_true rfl, Nat.le_of_ble_eq_true rfl⟩) hN hK hP hD hS hA [0, 1, 2, 3, 4, 5] [6] rfl rfl rfl rfl (by decide) rfl rfl hl.1 (Nat.le_of_ble_eq_true rfl) d_TileForge_apart_93 ⟨Nat.le_of_ble_eq_true rfl, Nat.le_of_ble_eq_true rfl⟩ (fun r5 w1 H locs hw hP hD hS => ?_)
              obtain ⟨rfl, rfl⟩ := hw
              have hP : va_P D vwCl [(f0, .inr (8, [.ref a1, .ref c1, .ref r1, .ref y1, .ref k1, .ref j1, .int ibc, .int ilc, .int igl, .int ibk, .int ifa, .int ibd])), (c1, .inr (5, [.ref c2, .ref c3, .int vzc, .int (nI pw), .int (nI ph), .int vkc])), (c2, .inl (cI, 144, .inl pxc)), (c3, .inl (cI, 9, .inl mdc)), (r1, .inr (5, [.ref r2, .ref r3, .int vzr, .int (nI pw), .int (nI ph), .int vkr])), (r2, .inl (cI, 144, .inl pxr)), (r3, .inl (cI, 9, .inl mdr))] H := hP
              have hD : va_D A [(f0, .inr (8, [.ref a1, .ref c1, .ref r1, .ref y1, .ref k1, .ref j1, .int ibc, .int ilc, .int igl, .int ibk, .int ifa, .int ibd])), (c1, .inr (5, [.ref c2, .ref c3, .int vzc, .int (nI pw), .int (nI ph), .int vkc])), (c2, .inl (cI, 144, .inl pxc)), (c3, .inl (cI, 9, .inl mdc)), (r1, .inr (5, [.ref r2, .ref r3, .int vzr, .int (nI pw), .int (nI ph), .int vkr])), (r2, .inl (cI, 144, .inl pxr)), (r3, .inl (cI, 9, .inl mdr))] := hD
              exact W.dret (v := (FP.ddiv (FP.i2d (apY pxc pxr pw ph)) (FP.i2d (nI (pw * ph))))) hx hb hr (fun t ht hW => ⟨⟨(FP.ddiv (FP.i2d (apY pxc pxr pw ph)) (FP.i2d (nI (pw * ph)))), [(f0, .inr (8, [.ref a1, .ref c1, .ref r1, .ref y1, .ref k1, .ref j1, .int ibc, .int ilc, .int igl, .int ibk, .int ifa, .int ibd])), (c1, .inr (5, [.ref c2, .ref c3, .int vzc, .int (nI pw), .int (nI ph), .int vkc])), (c2, .inl (cI, 144, .inl pxc)), (c3, .inl (cI, 9, .inl mdc)), (r1, .inr (5, [.ref r2, .ref r3, .int vzr, .int (nI pw), .int (nI ph), .int vkr])), (r2, .inl (cI, 144, .inl pxr)), (r3, .inl (cI, 9, .inl mdr))], rfl, ⟨(rfl), (rfl)⟩, by rw [ht]; exact hP, va_K.moved hW.alike hK, hD⟩, hS.F ht⟩) hS.2.2 d_TileForge_apart_96
            · exact absurd rfl c_79
        · exact absurd c_47 hm2
    · have c_11 := cs_b0 c_11
      exact absurd (by decide) c_11
def q_tf_apart20 (cI : ClassId) (f0 : Nat) (a1 : Nat) (c1 : Nat) (r1 : Nat) (y1 : Nat) (k1 : Nat) (j1 : Nat) (ibc : Int32) (ilc : Int32) (igl : Int32) (ibk : Int32) (ifa : Int32) (ibd : Int32) (r2 : Nat) (r3 : Nat) (pxr : Nat → Int32) (mdr : Nat → Int32) (vzr : Int32) (vkr : Int32) (a2 : Nat) (a3 : Nat) (px : Nat → Int32) (md : Nat → Int32) (vz : Int32) (vk : Int32) (pw : Nat) (ph : Nat) : UInt64 → va_W → Prop := fun rr ww => rr = (FP.ddiv (FP.i2d (apY pxr px pw ph)) (FP.i2d (nI (pw * ph)))) ∧ ww = [(f0, .inr (8, [.ref a1, .ref c1, .ref r1, .ref y1, .ref k1, .ref j1, .int ibc, .int ilc, .int igl, .int ibk, .int ifa, .int ibd])), (r1, .inr (5, [.ref r2, .ref r3, .int vzr, .int (nI pw), .int (nI ph), .int vkr])), (r2, .inl (cI, 144, .inl pxr)), (r3, .inl (cI, 9, .inl mdr)), (a1, .inr (5, [.ref a2, .ref a3, .int vz, .int (nI pw), .int (nI ph), .int vk])), (a2, .inl (cI, 144, .inl px)), (a3, .inl (cI, 9, .inl md))]
set_option maxHeartbeats 4000000 in
set_option maxRecDepth 100000 in
theorem c_tf_apart20 (l : Launch) {D : va_G} {tys : List (ClassId × FieldType)} {cI : ClassId} (hcI : tys[0]? = some (cI, .int)) (f0 : Nat) (a1 : Nat) (c1 : Nat) (r1 : Nat) (y1 : Nat) (k1 : Nat) (j1 : Nat) (ibc : Int32) (ilc : Int32) (igl : Int32) (ibk : Int32) (ifa : Int32) (ibd : Int32) (r2 : Nat) (r3 : Nat) (pxr : Nat → Int32) (mdr : Nat → Int32) (vzr : Int32) (vkr : Int32) (a2 : Nat) (a3 : Nat) (px : Nat → Int32) (md : Nat → Int32) (vz : Int32) (vk : Int32) (pw : Nat) (ph : Nat) (hm1 : ¬ vzr = 0) (hm2 : ¬ vz = 0) (hpw : 0 < pw ∧ pw ≤ 12) (hph : 0 < ph ∧ ph ≤ 12) : CsD l D vwCl tys y_TileForge_apart ws_TileForge_apart ({ frames := 3, cells := 0, slots := 0, locals := 70 } : Room) [.ref f0, .int 2, .int 0] [(f0, .inr (8, [.ref a1, .ref c1, .ref r1, .ref y1, .ref k1, .ref j1, .int ibc, .int ilc, .int igl, .int ibk, .int ifa, .int ibd])), (r1, .inr (5, [.ref r2, .ref r3, .int vzr, .int (nI pw), .int (nI ph), .int vkr])), (r2, .inl (cI, 144, .inl pxr)), (r3, .inl (cI, 9, .inl mdr)), (a1, .inr (5, [.ref a2, .ref a3, .int vz, .int (nI pw), .int (nI ph), .int vk])), (a2, .inl (cI, 144, .inl px)), (a3, .inl (cI, 9, .inl md))] (q_tf_apart20 cI f0 a1 c1 r1 y1 k1 j1 ibc ilc igl ibk ifa ibd r2 r3 pxr mdr vzr vkr a2 a3 px md vz vk pw ph) 0 0 := by
  intro sz
  refine Met.ofW (cc := prog_1_method_11_code) (maxL := 5) (ret := (some .double)) (by decide) rfl ?_
  intro p e s m args below meth c s₁ B hml hv
  obtain ⟨rfl, hsz, hP, hK, hD0, hN⟩ := hv
  have hx := B.exec
  have hb := B.bytes
  have hr := B.returns
  have hts := atoms_spec (ws := ws_TileForge_apart) B.pre
  have hown : s.vm.findClass "TileForge" = some m.cls := findClass_of_methodNamed B.named
  have hlocks := B.notSynchronized
  subst hsz
  have hD := hD0.self (sz := s.heap.size)
  generalize hAe : va_A [(f0, .inr (8, [.ref a1, .ref c1, .ref r1, .ref y1, .ref k1, .ref j1, .int ibc, .int ilc, .int igl, .int ibk, .int ifa, .int ibd])), (r1, .inr (5, [.ref r2, .ref r3, .int vzr, .int (nI pw), .int (nI ph), .int vkr])), (r2, .inl (cI, 144, .inl pxr)), (r3, .inl (cI, 9, .inl mdr)), (a1, .inr (5, [.ref a2, .ref a3, .int vz, .int (nI pw), .int (nI ph), .int vk])), (a2, .inl (cI, 144, .inl px)), (a3, .inl (cI, 9, .inl md))] s.heap.size = A at hD ⊢
  have hA : ∀ q : Nat, s.heap.size ≤ q → A q := fun q h => by rw [← hAe]; exact Or.inr h
  have hS : va_S A s.heap s.heap [] := va_S.rf
  have hP : va_P D vwCl [(f0, .inr (8, [.ref a1, .ref c1, .ref r1, .ref y1, .ref k1, .ref j1, .int ibc, .int ilc, .int igl, .int ibk, .int ifa, .int ibd])), (r1, .inr (5, [.ref r2, .ref r3, .int vzr, .int (nI pw), .int (nI ph), .int vkr])), (r2, .inl (cI, 144, .inl pxr)), (r3, .inl (cI, 9, .inl mdr)), (a1, .inr (5, [.ref a2, .ref a3, .int vz, .int (nI pw), .int (nI ph), .int vk])), (a2, .inl (cI, 144, .inl px)), (a3, .inl (cI, 9, .inl md))] s.heap := hP
  have hl := lv_entry ([.ref f0, .int 2, .int 0]) (n := 5) (Nat.le_of_ble_eq_true rfl)
  rw [lg_entry_eq]
  generalize (lg_sl ([.ref f0, .int 2, .int 0]) ++ List.replicate (5 - (lg_sl ([.ref f0, .int 2, .int 0])).length) Slot.unset).toArray = ls at hl ⊢
  have hl : lv_has ls 5 [(0, .ref f0), (1, .int 2), (2, .int 0)] := hl
  refine lv_iload_n hx hb d_TileForge_apart_0 rfl (lv_at hl 1 rfl) ?_
  refine cs_Si (As := [.int 2]) (rest := []) (wr := [(f0, .inr (8, [.ref a1, .ref c1, .ref r1, .ref y1, .ref k1, .ref j1, .int ibc, .int ilc, .int igl, .int ibk, .int ifa, .int ibd])), (r1, .inr (5, [.ref r2, .ref r3, .int vzr, .int (nI pw), .int (nI ph), .int vkr])), (r2, .inl (cI, 144, .inl pxr)), (r3, .inl (cI, 9, .inl mdr)), (a1, .inr (5, [.ref a2, .ref a3, .int vz, .int (nI pw), .int (nI ph), .int vk])), (a2, .inl (cI, 144, .inl px)), (a3, .inl (cI, 9, .inl md))]) ⟨hx, hb, hml, hown, hts⟩ (c_isChoice l hcI 2) (va_cwS 1 hts (cs_gS mw_518 mw_519 mw_139 mw_77) rfl rfl rfl hd_TileForge_isChoice ⟨Nat.le_of_ble_eq_true rfl, Nat.le_of_ble_eq_true rfl⟩) hN hK hP hD hS hA [] [0, 1, 2, 3, 4, 5, 6] rfl rfl rfl rfl (by decide) rfl rfl hl.1 (Nat.le_of_ble_eq_true rfl) d_TileForge_apart_1 ⟨Nat.le_of_ble_eq_true rfl, Nat.le_of_ble_eq_true rfl⟩ (fun r1 w1 H locs hw hP hD hS => ?_)
  obtain ⟨rfl, rfl⟩ := hw
  have hP : va_P D vwCl [(f0, .inr (8, [.ref a1, .ref c1, .ref r1, .ref y1, .ref k1, .ref j1, .int ibc, .int ilc, .int igl, .int ibk, .int ifa, .int ibd])), (r1, .inr (5, [.ref r2, .ref r3, .int vzr, .int (nI pw), .int (nI ph), .int vkr])), (r2, .inl (cI, 144, .inl pxr)), (r3, .inl (cI, 9, .inl mdr)), (a1, .inr (5, [.ref a2, .ref a3, .int vz, .int (nI pw), .int (nI ph), .int vk])), (a2, .inl (cI, 144, .inl px)), (a3, .inl (cI, 9, .inl md))] H := hP
  have hD : va_D A [(f0, .inr (8, [.ref a1, .ref c1, .ref r1, .ref y1, .ref k1, .ref j1, .int ibc, .int ilc, .int igl, .int ibk, .int ifa, .int ibd])), (r1, .inr (5, [.ref r2, .ref r3, .int vzr, .int (nI pw), .int (nI ph), .int vkr])), (r2, .inl (cI, 144, .inl pxr)), (r3, .inl (cI, 9, .inl mdr)), (a1, .inr (5, [.ref a2, .ref a3, .int vz, .int (nI pw), .int (nI ph), .int vk])), (a2, .inl (cI, 144, .inl px)), (a3, .inl (cI, 9, .inl md))] := hD
  refine lv_if_eq (tgt := 14) hx hb d_TileForge_apart_4 (by decide) (fun c_4 => ?_) (fun c_4 => ?_)
  · have c_4 := cs_b0 c_4
    exact absurd (by decide) c_4
  · have c_4 := cs_b1 c_4
    refine lv_iload_n hx hb d_TileForge_apart_7 rfl (lv_at hl 2 rfl) ?_
    refine cs_Si (As := [.int 0]) (rest := []) (wr := [(f0, .inr (8, [.ref a1, .ref c1, .ref r1, .ref y1, .ref k1, .ref j1, .int ibc, .int ilc, .int igl, .int ibk, .int ifa, .int ibd])), (r1, .inr (5, [.ref r2, .ref r3, .int vzr, .int (nI pw), .int (nI ph), .int vkr])), (r2, .inl (cI, 144, .inl pxr)), (r3, .inl (cI, 9, .inl mdr)), (a1, .inr (5, [.ref a2, .ref a3, .int vz, .int (nI pw), .int (nI ph), .int vk])), (a2, .inl (cI, 144, .inl px)), (a3, .inl (cI, 9, .inl md))]) ⟨hx, hb, hml, hown, hts⟩ (c_isChoice l hcI 0) (va_cwS 1 hts (cs_gS mw_518 mw_519 mw_139 mw_77) rfl rfl rfl hd_TileForge_isChoice ⟨Nat.le_of_ble_eq_true rfl, Nat.le_of_ble_eq_true rfl⟩) hN hK hP hD hS hA [] [0, 1, 2, 3, 4, 5, 6] rfl rfl rfl rfl (by decide) rfl rfl hl.1 (Nat.le_of_ble_eq_true rfl) d_TileForge_apart_8 ⟨Nat.le_of_ble_eq_true rfl, Nat.le_of_ble_eq_true rfl⟩ (fun r2 w1 H locs hw hP hD hS => ?_)
    obtain ⟨rfl, rfl⟩ := hw
    have hP : va_P D vwCl [(f0, .inr (8, [.ref a1, .ref c1, .ref r1, .ref y1, .ref k1, .ref j1, .int ibc, .int ilc, .int igl, .int ibk, .int ifa, .int ibd])), (r1, .inr (5, [.ref r2, .ref r3, .int vzr, .int (nI pw), .int (nI ph), .int vkr])), (r2, .inl (cI, 144, .inl pxr)), (r3, .inl (cI, 9, .inl mdr)), (a1, .inr (5, [.ref a2, .ref a3, .int vz, .int (nI pw), .int (nI ph), .int vk])), (a2, .inl (cI, 144, .inl px)), (a3, .inl (cI, 9, .inl md))] H := hP
    have hD : va_D A [(f0, .inr (8, [.ref a1, .ref c1, .ref r1, .ref y1, .ref k1, .ref j1, .int ibc, .int ilc, .int igl, .int ibk, .int ifa, .int ibd])), (r1, .inr (5, [.ref r2, .ref r3, .int vzr, .int (nI pw), .int (nI ph), .int vkr])), (r2, .inl (cI, 144, .inl pxr)), (r3, .inl (cI, 9, .inl mdr)), (a1, .inr (5, [.ref a2, .ref a3, .int vz, .int (nI pw), .int (nI ph), .int vk])), (a2, .inl (cI, 144, .inl px)), (a3, .inl (cI, 9, .inl md))] := hD
    refine lv_if_ne (tgt := 22) hx hb d_TileForge_apart_11 (by decide) (fun c_11 => ?_) (fun c_11 => ?_)
    · have c_11 := cs_b1 c_11
      refine lv_aload_n hx hb d_TileForge_apart_22 rfl (lv_at hl 0 rfl) ?_
      refine lv_iload_n hx hb d_TileForge_apart_23 rfl (lv_at hl 1 rfl) ?_
      refine cs_Vr (As := [.int 2]) (rest := []) (wr := [(r1, .inr (5, [.ref r2, .ref r3, .int vzr, .int (nI pw), .int (nI ph), .int vkr])), (r2, .inl (cI, 144, .inl pxr)), (r3, .inl (cI, 9, .inl mdr)), (a1, .inr (5, [.ref a2, .ref a3, .int vz, .int (nI pw), .int (nI ph), .int vk])), (a2, .inl (cI, 144, .inl px)), (a3, .inl (cI, 9, .inl md))]) ⟨hx, hb, hml, hown, hts⟩ (c_tf_choose2 l hcI f0 a1 c1 r1 y1 k1 j1 ibc ilc igl ibk ifa ibd) (cwV 1 hts (cs_gV mw_520 mw_521 mw_522 mw_139 mw_472) rfl rfl rfl ⟨rfl, hd_TileForge_choose⟩ ⟨Nat.le_of_ble_eq_true rfl, Nat.le_of_ble_eq_true rfl⟩) hN hK hP hD hS hA [0] [1, 2, 3, 4, 5, 6] rfl rfl rfl rfl (by decide) (ci := 8) rfl rfl rfl rfl rfl hl.1 (Nat.le_of_ble_eq_true rfl) d_TileForge_apart_24 ⟨Nat.le_of_ble_eq_true rfl, Nat.le_of_ble_eq_true rfl⟩ (fun r3 w1 H locs hw hP hD hS => ?_)
      obtain ⟨hrr, rfl⟩ := hw
      have hrr := hrr.symm
      subst hrr
      have hP : va_P D vwCl [(r1, .inr (5, [.ref r2, .ref r3, .int vzr, .int (nI pw), .int (nI ph), .int vkr])), (r2, .inl (cI, 144, .inl pxr)), (r3, .inl (cI, 9, .inl mdr)), (a1, .inr (5, [.ref a2, .ref a3, .int vz, .int (nI pw), .int (nI ph), .int vk])), (a2, .inl (cI, 144, .inl px)), (a3, .inl (cI, 9, .inl md)), (f0, .inr (8, [.ref a1, .ref c1, .ref r1, .ref y1, .ref k1, .ref j1, .int ibc, .int ilc, .int igl, .int ibk, .int ifa, .int ibd]))] H := hP
      have hD : va_D A [(r1, .inr (5, [.ref r2, .ref r3, .int vzr, .int (nI pw), .int (nI ph), .int vkr])), (r2, .inl (cI, 144, .inl pxr)), (r3, .inl (cI, 9, .inl mdr)), (a1, .inr (5, [.ref a2, .ref a3, .int vz, .int (nI pw), .int (nI ph), .int vk])), (a2, .inl (cI, 144, .inl px)), (a3, .inl (cI, 9, .inl md)), (f0, .inr (8, [.ref a1, .ref c1, .ref r1, .ref y1, .ref k1, .ref j1, .int ibc, .int ilc, .int igl, .int ibk, .int ifa, .int ibd]))] := hD
      refine lv_astore_n (lv' := [(3, .ref r1), (0, .ref f0), (1, .int 2), (2, .int 0)]) hx hb d_TileForge_apart_27 rfl hl (by decide) rfl (fun ls hl => ?_)
      refine lv_aload_n hx hb d_TileForge_apart_28 rfl (lv_at hl 1 rfl) ?_
      refine lv_iload_n hx hb d_TileForge_apart_29 rfl (lv_at hl 3 rfl) ?_
      refine cs_Vr (As := [.int 0]) (rest := []) (wr := [(r1, .inr (5, [.ref r2, .ref r3, .int vzr, .int (nI pw), .int (nI ph), .int vkr])), (r2, .inl (cI, 144, .inl pxr)), (r3, .inl (cI, 9, .inl mdr)), (a1, .inr (5, [.ref a2, .ref a3, .int vz, .int (nI pw), .int (nI ph), .int vk])), (a2, .inl (cI, 144, .inl px)), (a3, .inl (cI, 9, .inl md))]) ⟨hx, hb, hml, hown, hts⟩ (c_tf_choose0 l hcI f0 a1 c1 r1 y1 k1 j1 ibc ilc igl ibk ifa ibd) (cwV 1 hts (cs_gV mw_520 mw_521 mw_522 mw_139 mw_472) rfl rfl rfl ⟨rfl, hd_TileForge_choose⟩ ⟨Nat.le_of_ble_eq_true rfl, Nat.le_of_ble_eq_true rfl⟩) hN hK hP hD hS hA [6] [0, 1, 2, 3, 4, 5] rfl rfl rfl rfl (by decide) (ci := 8) rfl rfl rfl rfl rfl hl.1 (Nat.le_of_ble_eq_true rfl) d_TileForge_apart_30 ⟨Nat.le_of_ble_eq_true rfl, Nat.le_of_ble_eq_true rfl⟩ (fun r4 w1 H locs hw hP hD hS => ?_)
      obtain ⟨hrr, rfl⟩ := hw
      have hrr := hrr.symm
      subst hrr
      have hP : va_P D vwCl [(r1, .inr (5, [.ref r2, .ref r3, .int vzr, .int (nI pw), .int (nI ph), .int vkr])), (r2, .inl (cI, 144, .inl pxr)), (r3, .inl (cI, 9, .inl mdr)), (a1, .inr (5, [.ref a2, .ref a3, .int vz, .int (nI pw), .int (nI ph), .int vk])), (a2, .inl (cI, 144, .inl px)), (a3, .inl (cI, 9, .inl md)), (f0, .inr (8, [.ref a1, .ref c1, .ref r1, .ref y1, .ref k1, .ref j1, .int ibc, .int ilc, .int igl, .int ibk, .int ifa, .int ibd]))] H := hP
      have hD : va_D A [(r1, .inr (5, [.ref r2, .ref r3, .int vzr, .int (nI pw), .int (nI ph), .int vkr])), (r2, .inl (cI, 144, .inl pxr)), (r3, .inl (cI, 9, .inl mdr)), (a1, .inr (5, [.ref a2, .ref a3, .int vz, .int (nI pw), .int (nI ph), .int vk])), (a2, .inl (cI, 144, .inl px)), (a3, .inl (cI, 9, .inl md)), (f0, .inr (8, [.ref a1, .ref c1, .ref r1, .ref y1, .ref k1, .ref j1, .int ibc, .int ilc, .int igl, .int ibk, .int ifa, .int ibd]))] := hD
      refine lv_astore (lv' := [(4, .ref a1), (3, .ref r1), (0, .ref f0), (1, .int 2), (2, .int 0)]) hx hb d_TileForge_apart_33 hl (by decide) rfl (fun ls hl => ?_)
      refine lv_aload_n hx hb d_TileForge_apart_35 rfl (lv_at hl 1 rfl) ?_
      refine va_get (D := D) (ci := 5) (v := .int vzr) (C := "TileForge$Picture") (T := T_Picture) (N := 6) hx hb hts (cs_in in_Picture) hown hK hP 0 rfl rfl 2 (by decide) (hts _ (cs_m mw_523)) (fun _ h9 => h9) rfl d_TileForge_apart_36 ?_
      refine lv_if_eq (tgt := 50) hx hb d_TileForge_apart_39 (by decide) (fun c_39 => ?_) (fun c_39 => ?_)
      · exact absurd c_39 hm1
      · refine lv_aload hx hb d_TileForge_apart_42 (lv_at hl 0 rfl) ?_
        refine va_get (D := D) (ci := 5) (v := .int vz) (C := "TileForge$Picture") (T := T_Picture) (N := 6) hx hb hts (cs_in in_Picture) hown hK hP 3 rfl rfl 2 (by decide) (hts _ (cs_m mw_523)) (fun _ h9 => h9) rfl d_TileForge_apart_44 ?_
        refine lv_if_ne (tgt := 58) hx hb d_TileForge_apart_47 (by decide) (fun c_47 => ?_) (fun c_47 => ?_)
        · refine lv_aload_n hx hb d_TileForge_apart_58 rfl (lv_at hl 1 rfl) ?_
          refine va_get (D := D) (ci := 5) (v := .int (nI pw)) (C := "TileForge$Picture") (T := T_Picture) (N := 6) hx hb hts (cs_in in_Picture) hown hK hP 0 rfl rfl 3 (by decide) (hts _ (cs_m mw_478)) (fun _ h9 => h9) rfl d_TileForge_apart_59 ?_
          refine lv_aload hx hb d_TileForge_apart_62 (lv_at hl 0 rfl) ?_
          refine va_get (D := D) (ci := 5) (v := .int (nI pw)) (C := "TileForge$Picture") (T := T_Picture) (N := 6) hx hb hts (cs_in in_Picture) hown hK hP 3 rfl rfl 3 (by decide) (hts _ (cs_m mw_478)) (fun _ h9 => h9) rfl d_TileForge_apart_64 ?_
          refine lv_icmp_ne (tgt := 82) hx hb d_TileForge_apart_67 (by decide) (fun c_67 => ?_) (fun c_67 => ?_)
          · exact absurd rfl c_67
          · refine lv_aload_n hx hb d_TileForge_apart_70 rfl (lv_at hl 1 rfl) ?_
            refine va_get (D := D) (ci := 5) (v := .int (nI ph)) (C := "TileForge$Picture") (T := T_Picture) (N := 6) hx hb hts (cs_in in_Picture) hown hK hP 0 rfl rfl 4 (by decide) (hts _ (cs_m mw_477)) (fun _ h9 => h9) rfl d_TileForge_apart_71 ?_
            refine lv_aload hx hb d_TileForge_apart_74 (lv_at hl 0 rfl) ?_
            refine va_get (D := D) (ci := 5) (v := .int (nI ph)) (C := "TileForge$Picture") (T := T_Picture) (N := 6) hx hb hts (cs_in in_Picture) hown hK hP 3 rfl rfl 4 (by decide) (hts _ (cs_m mw_477)) (fun _ h9 => h9) rfl d_TileForge_apart_76 ?_
            refine lv_icmp_eq (tgt := 90) hx hb d_TileForge_apart_79 (by decide) (fun c_79 => ?_) (fun c_79 => ?_)
            · refine lv_aload_n hx hb d_TileForge_apart_90 rfl (lv_at hl 1 rfl) ?_
              refine lv_aload hx hb d_TileForge_apart_91 (lv_at hl 0 rfl) ?_
              refine cs_Sd (As := [.ref r1, .ref a1]) (rest := []) (wr := [(f0, .inr (8, [.ref a1, .ref c1, .ref r1, .ref y1, .ref k1, .ref j1, .int ibc, .int ilc, .int igl, .int ibk, .int ifa, .int ibd]))]) ⟨hx, hb, hml, hown, hts⟩ (c_tf_mos2 l hcI r1 r2 r3 pxr mdr vzr vkr a1 a2 a3 px md vz vk pw ph (hpw) (hph)) (va_cwS 2 hts (cs_gS mw_525 mw_526 mw_139 mw_476) rfl rfl rfl hd_TileForge_meanOfSquares ⟨Nat.le_of_ble_eq_true rfl, Nat.le_of_ble_eq_true rfl⟩) hN hK hP hD hS hA [0, 1, 2, 3, 4, 5] [6] rfl rfl rfl rfl (by decide) rfl rfl hl.1 (Nat.le_of_ble_eq_true rfl) d_TileForge_apart_93 ⟨Nat.le_of_ble_eq_true rfl, Nat.le_of_ble_eq_true rfl⟩ (fun r5 w1 H locs hw hP hD hS => ?_)
              obtain ⟨rfl, rfl⟩ := hw
              have hP : va_P D vwCl [(f0, .inr (8, [.ref a1, .ref c1, .ref r1, .ref y1, .ref k1, .ref j1, .int ibc, .int ilc, .int igl, .int ibk, .int ifa, .int ibd])), (r1, .inr (5, [.ref r2, .ref r3, .int vzr, .int (nI pw), .int (nI ph), .int vkr])), (r2, .inl (cI, 144, .inl pxr)), (r3, .inl (cI, 9, .inl mdr)), (a1, .inr (5, [.ref a2, .ref a3, .int vz, .int (nI pw), .int (nI ph), .int vk])), (a2, .inl (cI, 144, .inl px)), (a3, .inl (cI, 9, .inl md))] H := hP
              have hD : va_D A [(f0, .inr (8, [.ref a1, .ref c1, .ref r1, .ref y1, .ref k1, .ref j1, .int ibc, .int ilc, .int igl, .int ibk, .int ifa, .int ibd])), (r1, .inr (5, [.ref r2, .ref r3, .int vzr, .int (nI pw), .int (nI ph), .int vkr])), (r2, .inl (cI, 144, .inl pxr)), (r3, .inl (cI, 9, .inl mdr)), (a1, .inr (5, [.ref a2, .ref a3, .int vz, .int (nI pw), .int (nI ph), .int vk])), (a2, .inl (cI, 144, .inl px)), (a3, .inl (cI, 9, .inl md))] := hD
              exact W.dret (v := (FP.ddiv (FP.i2d (apY pxr px pw ph)) (FP.i2d (nI (pw * ph))))) hx hb hr (fun t ht hW => ⟨⟨(FP.ddiv (FP.i2d (apY pxr px pw ph)) (FP.i2d (nI (pw * ph)))), [(f0, .inr (8, [.ref a1, .ref c1, .ref r1, .ref y1, .ref k1, .ref j1, .int ibc, .int ilc, .int igl, .int ibk, .int ifa, .int ibd])), (r1, .inr (5, [.ref r2, .ref r3, .int vzr, .int (nI pw), .int (nI ph), .int vkr])), (r2, .inl (cI, 144, .inl pxr)), (r3, .inl (cI, 9, .inl mdr)), (a1, .inr (5, [.ref a2, .ref a3, .int vz, .int (nI pw), .int (nI ph), .int vk])), (a2, .inl (cI, 144, .inl px)), (a3, .inl (cI, 9, .inl md))], rfl, ⟨(rfl), (rfl)⟩, by rw [ht]; exact hP, va_K.moved hW.alike hK, hD⟩, hS.F ht⟩) hS.2.2 d_TileForge_apart_96
            · exact absurd rfl c_79
        · exact absurd c_47 hm2
    · have c_11 := cs_b0 c_11
      exact absurd (by decide) c_11
def q_tf_apart21 (cI : ClassId) (f0 : Nat) (a1 : Nat) (c1 : Nat) (r1 : Nat) (y1 : Nat) (k1 : Nat) (j1 : Nat) (ibc : Int32) (ilc : Int32) (igl : Int32) (ibk : Int32) (ifa : Int32) (ibd : Int32) (r2 : Nat) (r3 : Nat) (pxr : Nat → Int32) (mdr : Nat → Int32) (vzr : Int32) (vkr : Int32) (c2 : Nat) (c3 : Nat) (pxc : Nat → Int32) (mdc : Nat → Int32) (vzc : Int32) (vkc : Int32) (pw : Nat) (ph : Nat) : UInt64 → va_W → Prop := fun rr ww => rr = (FP.ddiv (FP.i2d (apY pxr pxc pw ph)) (FP.i2d (nI (pw * ph)))) ∧ ww = [(f0, .inr (8, [.ref a1, .ref c1, .ref r1, .ref y1, .ref k1, .ref j1, .int ibc, .int ilc, .int igl, .int ibk, .int ifa, .int ibd])), (r1, .inr (5, [.ref r2, .ref r3, .int vzr, .int (nI pw), .int (nI ph), .int vkr])), (r2, .inl (cI, 144, .inl pxr)), (r3, .inl (cI, 9, .inl mdr)), (c1, .inr (5, [.ref c2, .ref c3, .int vzc, .int (nI pw), .int (nI ph), .int vkc])), (c2, .inl (cI, 144, .inl pxc)), (c3, .inl (cI, 9, .inl mdc))]
set_option maxHeartbeats 4000000 in
set_option maxRecDepth 100000 in
theorem c_tf_apart21 (l : Launch) {D : va_G} {tys : List (ClassId × FieldType)} {cI : ClassId} (hcI : tys[0]? = some (cI, .int)) (f0 : Nat) (a1 : Nat) (c1 : Nat) (r1 : Nat) (y1 : Nat) (k1 : Nat) (j1 : Nat) (ibc : Int32) (ilc : Int32) (igl : Int32) (ibk : Int32) (ifa : Int32) (ibd : Int32) (r2 : Nat) (r3 : Nat) (pxr : Nat → Int32) (mdr : Nat → Int32) (vzr : Int32) (vkr : Int32) (c2 : Nat) (c3 : Nat) (pxc : Nat → Int32) (mdc : Nat → Int32) (vzc : Int32) (vkc : Int32) (pw : Nat) (ph : Nat) (hm1 : ¬ vzr = 0) (hm2 : ¬ vzc = 0) (hpw : 0 < pw ∧ pw ≤ 12) (hph : 0 < ph ∧ ph ≤ 12) : CsD l D vwCl tys y_TileForge_apart ws_TileForge_apart ({ frames := 3, cells := 0, slots := 0, locals := 70 } : Room) [.ref f0, .int 2, .int 1] [(f0, .inr (8, [.ref a1, .ref c1, .ref r1, .ref y1, .ref k1, .ref j1, .int ibc, .int ilc, .int igl, .int ibk, .int ifa, .int ibd])), (r1, .inr (5, [.ref r2, .ref r3, .int vzr, .int (nI pw), .int (nI ph), .int vkr])), (r2, .inl (cI, 144, .inl pxr)), (r3, .inl (cI, 9, .inl mdr)), (c1, .inr (5, [.ref c2, .ref c3, .int vzc, .int (nI pw), .int (nI ph), .int vkc])), (c2, .inl (cI, 144, .inl pxc)), (c3, .inl (cI, 9, .inl mdc))] (q_tf_apart21 cI f0 a1 c1 r1 y1 k1 j1 ibc ilc igl ibk ifa ibd r2 r3 pxr mdr vzr vkr c2 c3 pxc mdc vzc vkc pw ph) 0 0 := by
  intro sz
  refine Met.ofW (cc := prog_1_method_11_code) (maxL := 5) (ret := (some .double)) (by decide) rfl ?_
  intro p e s m args below meth c s₁ B hml hv
  obtain ⟨rfl, hsz, hP, hK, hD0, hN⟩ := hv
  have hx := B.exec
  have hb := B.bytes
  have hr := B.returns
  have hts := atoms_spec (ws := ws_TileForge_apart) B.pre
  have hown : s.vm.findClass "TileForge" = some m.cls := findClass_of_methodNamed B.named
  have hlocks := B.notSynchronized
  subst hsz
  have hD := hD0.self (sz := s.heap.size)
  generalize hAe : va_A [(f0, .inr (8, [.ref a1, .ref c1, .ref r1, .ref y1, .ref k1, .ref j1, .int ibc, .int ilc, .int igl, .int ibk, .int ifa, .int ibd])), (r1, .inr (5, [.ref r2, .ref r3, .int vzr, .int (nI pw), .int (nI ph), .int vkr])), (r2, .inl (cI, 144, .inl pxr)), (r3, .inl (cI, 9, .inl mdr)), (c1, .inr (5, [.ref c2, .ref c3, .int vzc, .int (nI pw), .int (nI ph), .int vkc])), (c2, .inl (cI, 144, .inl pxc)), (c3, .inl (cI, 9, .inl mdc))] s.heap.size = A at hD ⊢
  have hA : ∀ q : Nat, s.heap.size ≤ q → A q := fun q h => by rw [← hAe]; exact Or.inr h
  have hS : va_S A s.heap s.heap [] := va_S.rf
  have hP : va_P D vwCl [(f0, .inr (8, [.ref a1, .ref c1, .ref r1, .ref y1, .ref k1, .ref j1, .int ibc, .int ilc, .int igl, .int ibk, .int ifa, .int ibd])), (r1, .inr (5, [.ref r2, .ref r3, .int vzr, .int (nI pw), .int (nI ph), .int vkr])), (r2, .inl (cI, 144, .inl pxr)), (r3, .inl (cI, 9, .inl mdr)), (c1, .inr (5, [.ref c2, .ref c3, .int vzc, .int (nI pw), .int (nI ph), .int vkc])), (c2, .inl (cI, 144, .inl pxc)), (c3, .inl (cI, 9, .inl mdc))] s.heap := hP
  have hl := lv_entry ([.ref f0, .int 2, .int 1]) (n := 5) (Nat.le_of_ble_eq_true rfl)
  rw [lg_entry_eq]
  generalize (lg_sl ([.ref f0, .int 2, .int 1]) ++ List.replicate (5 - (lg_sl ([.ref f0, .int 2, .int 1])).length) Slot.unset).toArray = ls at hl ⊢
  have hl : lv_has ls 5 [(0, .ref f0), (1, .int 2), (2, .int 1)] := hl
  refine lv_iload_n hx hb d_TileForge_apart_0 rfl (lv_at hl 1 rfl) ?_
  refine cs_Si (As := [.int 2]) (rest := []) (wr := [(f0, .inr (8, [.ref a1, .ref c1, .ref r1, .ref y1, .ref k1, .ref j1, .int ibc, .int ilc, .int igl, .int ibk, .int ifa, .int ibd])), (r1, .inr (5, [.ref r2, .ref r3, .int vzr, .int (nI pw), .int (nI ph), .int vkr])), (r2, .inl (cI, 144, .inl pxr)), (r3, .inl (cI, 9, .inl mdr)), (c1, .inr (5, [.ref c2, .ref c3, .int vzc, .int (nI pw), .int (nI ph), .int vkc])), (c2, .inl (cI, 144, .inl pxc)), (c3, .inl (cI, 9, .inl mdc))]) ⟨hx, hb, hml, hown, hts⟩ (c_isChoice l hcI 2) (va_cwS 1 hts (cs_gS mw_518 mw_519 mw_139 mw_77) rfl rfl rfl hd_TileForge_isChoice ⟨Nat.le_of_ble_eq_true rfl, Nat.le_of_ble_eq_true rfl⟩) hN hK hP hD hS hA [] [0, 1, 2, 3, 4, 5, 6] rfl rfl rfl rfl (by decide) rfl rfl hl.1 (Nat.le_of_ble_eq_true rfl) d_TileForge_apart_1 ⟨Nat.le_of_ble_eq_true rfl, Nat.le_of_ble_eq_true rfl⟩ (fun r1 w1 H locs hw hP hD hS => ?_)
  obtain ⟨rfl, rfl⟩ := hw
  have hP : va_P D vwCl [(f0, .inr (8, [.ref a1, .ref c1, .ref r1, .ref y1, .ref k1, .ref j1, .int ibc, .int ilc, .int igl, .int ibk, .int ifa, .int ibd])), (r1, .inr (5, [.ref r2, .ref r3, .int vzr, .int (nI pw), .int (nI ph), .int vkr])), (r2, .inl (cI, 144, .inl pxr)), (r3, .inl (cI, 9, .inl mdr)), (c1, .inr (5, [.ref c2, .ref c3, .int vzc, .int (nI pw), .int (nI ph), .int vkc])), (c2, .inl (cI, 144, .inl pxc)), (c3, .inl (cI, 9, .inl mdc))] H := hP
  have hD : va_D A [(f0, .inr (8, [.ref a1, .ref c1, .ref r1, .ref y1, .ref k1, .ref j1, .int ibc, .int ilc, .int igl, .int ibk, .int ifa, .int ibd])), (r1, .inr (5, [.ref r2, .ref r3, .int vzr, .int (nI pw), .int (nI ph), .int vkr])), (r2, .inl (cI, 144, .inl pxr)), (r3, .inl (cI, 9, .inl mdr)), (c1, .inr (5, [.ref c2, .ref c3, .int vzc, .int (nI pw), .int (nI ph), .int vkc])), (c2, .inl (cI, 144, .inl pxc)), (c3, .inl (cI, 9, .inl mdc))] := hD
  refine lv_if_eq (tgt := 14) hx hb d_TileForge_apart_4 (by decide) (fun c_4 => ?_) (fun c_4 => ?_)
  · have c_4 := cs_b0 c_4
    exact absurd (by decide) c_4
  · have c_4 := cs_b1 c_4
    refine lv_iload_n hx hb d_TileForge_apart_7 rfl (lv_at hl 2 rfl) ?_
    refine cs_Si (As := [.int 1]) (rest := []) (wr := [(f0, .inr (8, [.ref a1, .ref c1, .ref r1, .ref y1, .ref k1, .ref j1, .int ibc, .int ilc, .int igl, .int ibk, .int ifa, .int ibd])), (r1, .inr (5, [.ref r2, .ref r3, .int vzr, .int (nI pw), .int (nI ph), .int vkr])), (r2, .inl (cI, 144, .inl pxr)), (r3, .inl (cI, 9, .inl mdr)), (c1, .inr (5, [.ref c2, .ref c3, .int vzc, .int (nI pw), .int (nI ph), .int vkc])), (c2, .inl (cI, 144, .inl pxc)), (c3, .inl (cI, 9, .inl mdc))]) ⟨hx, hb, hml, hown, hts⟩ (c_isChoice l hcI 1) (va_cwS 1 hts (cs_gS mw_518 mw_519 mw_139 mw_77) rfl rfl rfl hd_TileForge_isChoice ⟨Nat.le_of_ble_eq_true rfl, Nat.le_of_ble_eq_true rfl⟩) hN hK hP hD hS hA [] [0, 1, 2, 3, 4, 5, 6] rfl rfl rfl rfl (by decide) rfl rfl hl.1 (Nat.le_of_ble_eq_true rfl) d_TileForge_apart_8 ⟨Nat.le_of_ble_eq_true rfl, Nat.le_of_ble_eq_true rfl⟩ (fun r2 w1 H locs hw hP hD hS => ?_)
    obtain ⟨rfl, rfl⟩ := hw
    have hP : va_P D vwCl [(f0, .inr (8, [.ref a1, .ref c1, .ref r1, .ref y1, .ref k1, .ref j1, .int ibc, .int ilc, .int igl, .int ibk, .int ifa, .int ibd])), (r1, .inr (5, [.ref r2, .ref r3, .int vzr, .int (nI pw), .int (nI ph), .int vkr])), (r2, .inl (cI, 144, .inl pxr)), (r3, .inl (cI, 9, .inl mdr)), (c1, .inr (5, [.ref c2, .ref c3, .int vzc, .int (nI pw), .int (nI ph), .int vkc])), (c2, .inl (cI, 144, .inl pxc)), (c3, .inl (cI, 9, .inl mdc))] H := hP
    have hD : va_D A [(f0, .inr (8, [.ref a1, .ref c1, .ref r1, .ref y1, .ref k1, .ref j1, .int ibc, .int ilc, .int igl, .int ibk, .int ifa, .int ibd])), (r1, .inr (5, [.ref r2, .ref r3, .int vzr, .int (nI pw), .int (nI ph), .int vkr])), (r2, .inl (cI, 144, .inl pxr)), (r3, .inl (cI, 9, .inl mdr)), (c1, .inr (5, [.ref c2, .ref c3, .int vzc, .int (nI pw), .int (nI ph), .int vkc])), (c2, .inl (cI, 144, .inl pxc)), (c3, .inl (cI, 9, .inl mdc))] := hD
    refine lv_if_ne (tgt := 22) hx hb d_TileForge_apart_11 (by decide) (fun c_11 => ?_) (fun c_11 => ?_)
    · have c_11 := cs_b1 c_11
      refine lv_aload_n hx hb d_TileForge_apart_22 rfl (lv_at hl 0 rfl) ?_
      refine lv_iload_n hx hb d_TileForge_apart_23 rfl (lv_at hl 1 rfl) ?_
      refine cs_Vr (As := [.int 2]) (rest := []) (wr := [(r1, .inr (5, [.ref r2, .ref r3, .int vzr, .int (nI pw), .int (nI ph), .int vkr])), (r2, .inl (cI, 144, .inl pxr)), (r3, .inl (cI, 9, .inl mdr)), (c1, .inr (5, [.ref c2, .ref c3, .int vzc, .int (nI pw), .int (nI ph), .int vkc])), (c2, .inl (cI, 144, .inl pxc)), (c3, .inl (cI, 9, .inl mdc))]) ⟨hx, hb, hml, hown, hts⟩ (c_tf_choose2 l hcI f0 a1 c1 r1 y1 k1 j1 ibc ilc igl ibk ifa ibd) (cwV 1 hts (cs_gV mw_520 mw_521 mw_522 mw_139 mw_472) rfl rfl rfl ⟨rfl, hd_TileForge_choose⟩ ⟨Nat.le_of_ble_eq_true rfl, Nat.le_of_ble_eq_true rfl⟩) hN hK hP hD hS hA [0] [1, 2, 3, 4, 5, 6] rfl rfl rfl rfl (by decide) (ci := 8) rfl rfl rfl rfl rfl hl.1 (Nat.le_of_ble_eq_true rfl) d_TileForge_apart_24 ⟨Nat.le_of_ble_eq_true rfl, Nat.le_of_ble_eq_true rfl⟩ (fun r3 w1 H locs hw hP hD hS => ?_)
      obtain ⟨hrr, rfl⟩ := hw
      have hrr := hrr.symm
      subst hrr
      have hP : va_P D vwCl [(r1, .inr (5, [.ref r2, .ref r3, .int vzr, .int (nI pw), .int (nI ph), .int vkr])), (r2, .inl (cI, 144, .inl pxr)), (r3, .inl (cI, 9, .inl mdr)), (c1, .inr (5, [.ref c2, .ref c3, .int vzc, .int (nI pw), .int (nI ph), .int vkc])), (c2, .inl (cI, 144, .inl pxc)), (c3, .inl (cI, 9, .inl mdc)), (f0, .inr (8, [.ref a1, .ref c1, .ref r1, .ref y1, .ref k1, .ref j1, .int ibc, .int ilc, .int igl, .int ibk, .int ifa, .int ibd]))] H := hP
      have hD : va_D A [(r1, .inr (5, [.ref r2, .ref r3, .int vzr, .int (nI pw), .int (nI ph), .int vkr])), (r2, .inl (cI, 144, .inl pxr)), (r3, .inl (cI, 9, .inl mdr)), (c1, .inr (5, [.ref c2, .ref c3, .int vzc, .int (nI pw), .int (nI ph), .int vkc])), (c2, .inl (cI, 144, .inl pxc)), (c3, .inl (cI, 9, .inl mdc)), (f0, .inr (8, [.ref a1, .ref c1, .ref r1, .ref y1, .ref k1, .ref j1, .int ibc, .int ilc, .int igl, .int ibk, .int ifa, .int ibd]))] := hD
      refine lv_astore_n (lv' := [(3, .ref r1), (0, .ref f0), (1, .int 2), (2, .int 1)]) hx hb d_TileForge_apart_27 rfl hl (by decide) rfl (fun ls hl => ?_)
      refine lv_aload_n hx hb d_TileForge_apart_28 rfl (lv_at hl 1 rfl) ?_
      refine lv_iload_n hx hb d_TileForge_apart_29 rfl (lv_at hl 3 rfl) ?_
      refine cs_Vr (As := [.int 1]) (rest := []) (wr := [(r1, .inr (5, [.ref r2, .ref r3, .int vzr, .int (nI pw), .int (nI ph), .int vkr])), (r2, .inl (cI, 144, .inl pxr)), (r3, .inl (cI, 9, .inl mdr)), (c1, .inr (5, [.ref c2, .ref c3, .int vzc, .int (nI pw), .int (nI ph), .int vkc])), (c2, .inl (cI, 144, .inl pxc)), (c3, .inl (cI, 9, .inl mdc))]) ⟨hx, hb, hml, hown, hts⟩ (c_tf_choose1 l hcI f0 a1 c1 r1 y1 k1 j1 ibc ilc igl ibk ifa ibd) (cwV 1 hts (cs_gV mw_520 mw_521 mw_522 mw_139 mw_472) rfl rfl rfl ⟨rfl, hd_TileForge_choose⟩ ⟨Nat.le_of_ble_eq_true rfl, Nat.le_of_ble_eq_true rfl⟩) hN hK hP hD hS hA [6] [0, 1, 2, 3, 4, 5] rfl rfl rfl rfl (by decide) (ci := 8) rfl rfl rfl rfl rfl hl.1 (Nat.le_of_ble_eq_true rfl) d_TileForge_apart_30 ⟨Nat.le_of_ble_eq_true rfl, Nat.le_of_ble_eq_true rfl⟩ (fun r4 w1 H locs hw hP hD hS => ?_)
      obtain ⟨hrr, rfl⟩ := hw
      have hrr := hrr.symm
      subst hrr
      have hP : va_P D vwCl [(r1, .inr (5, [.ref r2, .ref r3, .int vzr, .int (nI pw), .int (nI ph), .int vkr])), (r2, .inl (cI, 144, .inl pxr)), (r3, .inl (cI, 9, .inl mdr)), (c1, .inr (5, [.ref c2, .ref c3, .int vzc, .int (nI pw), .int (nI ph), .int vkc])), (c2, .inl (cI, 144, .inl pxc)), (c3, .inl (cI, 9, .inl mdc)), (f0, .inr (8, [.ref a1, .ref c1, .ref r1, .ref y1, .ref k1, .ref j1, .int ibc, .int ilc, .int igl, .int ibk, .int ifa, .int ibd]))] H := hP
      have hD : va_D A [(r1, .inr (5, [.ref r2, .ref r3, .int vzr, .int (nI pw), .int (nI ph), .int vkr])), (r2, .inl (cI, 144, .inl pxr)), (r3, .inl (cI, 9, .inl mdr)), (c1, .inr (5, [.ref c2, .ref c3, .int vzc, .int (nI pw), .int (nI ph), .int vkc])), (c2, .inl (cI, 144, .inl pxc)), (c3, .inl (cI, 9, .inl mdc)), (f0, .inr (8, [.ref a1, .ref c1, .ref r1, .ref y1, .ref k1, .ref j1, .int ibc, .int ilc, .int igl, .int ibk, .int ifa, .int ibd]))] := hD
      refine lv_astore (lv' := [(4, .ref c1), (3, .ref r1), (0, .ref f0), (1, .int 2), (2, .int 1)]) hx hb d_TileForge_apart_33 hl (by decide) rfl (fun ls hl => ?_)
      refine lv_aload_n hx hb d_TileForge_apart_35 rfl (lv_at hl 1 rfl) ?_
      refine va_get (D := D) (ci := 5) (v := .int vzr) (C := "TileForge$Picture") (T := T_Picture) (N := 6) hx hb hts (cs_in in_Picture) hown hK hP 0 rfl rfl 2 (by decide) (hts _ (cs_m mw_523)) (fun _ h9 => h9) rfl d_TileForge_apart_36 ?_
      refine lv_if_eq (tgt := 50) hx hb d_TileForge_apart_39 (by decide) (fun c_39 => ?_) (fun c_39 => ?_)
      · exact absurd c_39 hm1
      · refine lv_aload hx hb d_TileForge_apart_42 (lv_at hl 0 rfl) ?_
        refine va_get (D := D) (ci := 5) (v := .int vzc) (C := "TileForge$Picture") (T := T_Picture) (N := 6) hx hb hts (cs_in in_Picture) hown hK hP 3 rfl rfl 2 (by decide) (hts _ (cs_m mw_523)) (fun _ h9 => h9) rfl d_TileForge_apart_44 ?_
        refine lv_if_ne (tgt := 58) hx hb d_TileForge_apart_47 (by decide) (fun c_47 => ?_) (fun c_47 => ?_)
        · refine lv_aload_n hx hb d_TileForge_apart_58 rfl (lv_at hl 1 rfl) ?_
          refine va_get (D := D) (ci := 5) (v := .int (nI pw)) (C := "TileForge$Picture") (T := T_Picture) (N := 6) hx hb hts (cs_in in_Picture) hown hK hP 0 rfl rfl 3 (by decide) (hts _ (cs_m mw_478)) (fun _ h9 => h9) rfl d_TileForge_apart_59 ?_
          refine lv_aload hx hb d_TileForge_apart_62 (lv_at hl 0 rfl) ?_
          refine va_get (D := D) (ci := 5) (v := .int (nI pw)) (C := "TileForge$Picture") (T := T_Picture) (N := 6) hx hb hts (cs_in in_Picture) hown hK hP 3 rfl rfl 3 (by decide) (hts _ (cs_m mw_478)) (fun _ h9 => h9) rfl d_TileForge_apart_64 ?_
          refine lv_icmp_ne (tgt := 82) hx hb d_TileForge_apart_67 (by decide) (fun c_67 => ?_) (fun c_67 => ?_)
          · exact absurd rfl c_67
          · refine lv_aload_n hx hb d_TileForge_apart_70 rfl (lv_at hl 1 rfl) ?_
            refine va_get (D := D) (ci := 5) (v := .int (nI ph)) (C := "TileForge$Picture") (T := T_Picture) (N := 6) hx hb hts (cs_in in_Picture) hown hK hP 0 rfl rfl 4 (by decide) (hts _ (cs_m mw_477)) (fun _ h9 => h9) rfl d_TileForge_apart_71 ?_
            refine lv_aload hx hb d_TileForge_apart_74 (lv_at hl 0 rfl) ?_
            refine va_get (D := D) (ci := 5) (v := .int (nI ph)) (C := "TileForge$Picture") (T := T_Picture) (N := 6) hx hb hts (cs_in in_Picture) hown hK hP 3 rfl rfl 4 (by decide) (hts _ (cs_m mw_477)) (fun _ h9 => h9) rfl d_TileForge_apart_76 ?_
            refine lv_icmp_eq (tgt := 90) hx hb d_TileForge_apart_79 (by decide) (fun c_79 => ?_) (fun c_79 => ?_)
            · refine lv_aload_n hx hb d_TileForge_apart_90 rfl (lv_at hl 1 rfl) ?_
              refine lv_aload hx hb d_TileForge_apart_91 (lv_at hl 0 rfl) ?_
              refine cs_Sd (As := [.ref r1, .ref c1]) (rest := []) (wr := [(f0, .inr (8, [.ref a1, .ref c1, .ref r1, .ref y1, .ref k1, .ref j1, .int ibc, .int ilc, .int igl, .int ibk, .int ifa, .int ibd]))]) ⟨hx, hb, hml, hown, hts⟩ (c_tf_mos2 l hcI r1 r2 r3 pxr mdr vzr vkr c1 c2 c3 pxc mdc vzc vkc pw ph (hpw) (hph)) (va_cwS 2 hts (cs_gS mw_525 mw_526 mw_139 mw_476) rfl rfl rfl hd_TileForge_meanOfSquares ⟨Nat.le_of_ble_eq_true rfl, Nat.le_of_ble_eq_true rfl⟩) hN hK hP hD hS hA [0, 1, 2, 3, 4, 5] [6] rfl rfl rfl rfl (by decide) rfl rfl hl.1 (Nat.le_of_ble_eq_true rfl) d_TileForge_apart_93 ⟨Nat.le_of_ble_eq_true rfl, Nat.le_of_ble_eq_true rfl⟩ (fun r5 w1 H locs hw hP hD hS => ?_)
              obtain ⟨rfl, rfl⟩ := hw
              have hP : va_P D vwCl [(f0, .inr (8, [.ref a1, .ref c1, .ref r1, .ref y1, .ref k1, .ref j1, .int ibc, .int ilc, .int igl, .int ibk, .int ifa, .int ibd])), (r1, .inr (5, [.ref r2, .ref r3, .int vzr, .int (nI pw), .int (nI ph), .int vkr])), (r2, .inl (cI, 144, .inl pxr)), (r3, .inl (cI, 9, .inl mdr)), (c1, .inr (5, [.ref c2, .ref c3, .int vzc, .int (nI pw), .int (nI ph), .int vkc])), (c2, .inl (cI, 144, .inl pxc)), (c3, .inl (cI, 9, .inl mdc))] H := hP
              have hD : va_D A [(f0, .inr (8, [.ref a1, .ref c1, .ref r1, .ref y1, .ref k1, .ref j1, .int ibc, .int ilc, .int igl, .int ibk, .int ifa, .int ibd])), (r1, .inr (5, [.ref r2, .ref r3, .int vzr, .int (nI pw), .int (nI ph), .int vkr])), (r2, .inl (cI, 144, .inl pxr)), (r3, .inl (cI, 9, .inl mdr)), (c1, .inr (5, [.ref c2, .ref c3, .int vzc, .int (nI pw), .int (nI ph), .int vkc])), (c2, .inl (cI, 144, .inl pxc)), (c3, .inl (cI, 9, .inl mdc))] := hD
              exact W.dret (v := (FP.ddiv (FP.i2d (apY pxr pxc pw ph)) (FP.i2d (nI (pw * ph))))) hx hb hr (fun t ht hW => ⟨⟨(FP.ddiv (FP.i2d (apY pxr pxc pw ph)) (FP.i2d (nI (pw * ph)))), [(f0, .inr (8, [.ref a1, .ref c1, .ref r1, .ref y1, .ref k1, .ref j1, .int ibc, .int ilc, .int igl, .int ibk, .int ifa, .int ibd])), (r1, .inr (5, [.ref r2, .ref r3, .int vzr, .int (nI pw), .int (nI ph), .int vkr])), (r2, .inl (cI, 144, .inl pxr)), (r3, .inl (cI, 9, .inl mdr)), (c1, .inr (5, [.ref c2, .ref c3, .int vzc, .int (nI pw), .int (nI ph), .int vkc])), (c2, .inl (cI, 144, .inl pxc)), (c3, .inl (cI, 9, .inl mdc))], rfl, ⟨(rfl), (rfl)⟩, by rw [ht]; exact hP, va_K.moved hW.alike hK, hD⟩, hS.F ht⟩) hS.2.2 d_TileForge_apart_96
            · exact absurd rfl c_79
        · exact absurd c_47 hm2
    · have c_11 := cs_b0 c_11
      exact absurd (by decide) c_11
def q_tf_apart22 (cI : ClassId) (f0 : Nat) (a1 : Nat) (c1 : Nat) (r1 : Nat) (y1 : Nat) (k1 : Nat) (j1 : Nat) (ibc : Int32) (ilc : Int32) (igl : Int32) (ibk : Int32) (ifa : Int32) (ibd : Int32) (r2 : Nat) (r3 : Nat) (pxr : Nat → Int32) (mdr : Nat → Int32) (vzr : Int32) (vkr : Int32) (pw : Nat) (ph : Nat) : UInt64 → va_W → Prop := fun rr ww => rr = (FP.ddiv (FP.i2d (apY pxr pxr pw ph)) (FP.i2d (nI (pw * ph)))) ∧ ww = [(f0, .inr (8, [.ref a1, .ref c1, .ref r1, .ref y1, .ref k1, .ref j1, .int ibc, .int ilc, .int igl, .int ibk, .int ifa, .int ibd])), (r1, .inr (5, [.ref r2, .ref r3, .int vzr, .int (nI pw), .int (nI ph), .int vkr])), (r2, .inl (cI, 144, .inl pxr)), (r3, .inl (cI, 9, .inl mdr))]
set_option maxHeartbeats 4000000 in
set_option maxRecDepth 100000 in
theorem c_tf_apart22 (l : Launch) {D : va_G} {tys : List (ClassId × FieldType)} {cI : ClassId} (hcI : tys[0]? = some (cI, .int)) (f0 : Nat) (a1 : Nat) (c1 : Nat) (r1 : Nat) (y1 : Nat) (k1 : Nat) (j1 : Nat) (ibc : Int32) (ilc : Int32) (igl : Int32) (ibk : Int32) (ifa : Int32) (ibd : Int32) (r2 : Nat) (r3 : Nat) (pxr : Nat → Int32) (mdr : Nat → Int32) (vzr : Int32) (vkr : Int32) (pw : Nat) (ph : Nat) (hm1 : ¬ vzr = 0) (hm2 : ¬ vzr = 0) (hpw : 0 < pw ∧ pw ≤ 12) (hph : 0 < ph ∧ ph ≤ 12) : CsD l D vwCl tys y_TileForge_apart ws_TileForge_apart ({ frames := 3, cells := 0, slots := 0, locals := 70 } : Room) [.ref f0, .int 2, .int 2] [(f0, .inr (8, [.ref a1, .ref c1, .ref r1, .ref y1, .ref k1, .ref j1, .int ibc, .int ilc, .int igl, .int ibk, .int ifa, .int ibd])), (r1, .inr (5, [.ref r2, .ref r3, .int vzr, .int (nI pw), .int (nI ph), .int vkr])), (r2, .inl (cI, 144, .inl pxr)), (r3, .inl (cI, 9, .inl mdr))] (q_tf_apart22 cI f0 a1 c1 r1 y1 k1 j1 ibc ilc igl ibk ifa ibd r2 r3 pxr mdr vzr vkr pw ph) 0 0 := by
  intro sz
  refine Met.ofW (cc := prog_1_method_11_code) (maxL := 5) (ret := (some .double)) (by decide) rfl ?_
  intro p e s m args below meth c s₁ B hml hv
  obtain ⟨rfl, hsz, hP, hK, hD0, hN⟩ := hv
  have hx := B.exec
  have hb := B.bytes
  have hr := B.returns
  have hts := atoms_spec (ws := ws_TileForge_apart) B.pre
  have hown : s.vm.findClass "TileForge" = some m.cls := findClass_of_methodNamed B.named
  have hlocks := B.notSynchronized
  subst hsz
  have hD := hD0.self (sz := s.heap.size)
  generalize hAe : va_A [(f0, .inr (8, [.ref a1, .ref c1, .ref r1, .ref y1, .ref k1, .ref j1, .int ibc, .int ilc, .int igl, .int ibk, .int ifa, .int ibd])), (r1, .inr (5, [.ref r2, .ref r3, .int vzr, .int (nI pw), .int (nI ph), .int vkr])), (r2, .inl (cI, 144, .inl pxr)), (r3, .inl (cI, 9, .inl mdr))] s.heap.size = A at hD ⊢
  have hA : ∀ q : Nat, s.heap.size ≤ q → A q := fun q h => by rw [← hAe]; exact Or.inr h
  have hS : va_S A s.heap s.heap [] := va_S.rf
  have hP : va_P D vwCl [(f0, .inr (8, [.ref a1, .ref c1, .ref r1, .ref y1, .ref k1, .ref j1, .int ibc, .int ilc, .int igl, .int ibk, .int ifa, .int ibd])), (r1, .inr (5, [.ref r2, .ref r3, .int vzr, .int (nI pw), .int (nI ph), .int vkr])), (r2, .inl (cI, 144, .inl pxr)), (r3, .inl (cI, 9, .inl mdr))] s.heap := hP
  have hl := lv_entry ([.ref f0, .int 2, .int 2]) (n := 5) (Nat.le_of_ble_eq_true rfl)
  rw [lg_entry_eq]
  generalize (lg_sl ([.ref f0, .int 2, .int 2]) ++ List.replicate (5 - (lg_sl ([.ref f0, .int 2, .int 2])).length) Slot.unset).toArray = ls at hl ⊢
  have hl : lv_has ls 5 [(0, .ref f0), (1, .int 2), (2, .int 2)] := hl
  refine lv_iload_n hx hb d_TileForge_apart_0 rfl (lv_at hl 1 rfl) ?_
  refine cs_Si (As := [.int 2]) (rest := []) (wr := [(f0, .inr (8, [.ref a1, .ref c1, .ref r1, .ref y1, .ref k1, .ref j1, .int ibc, .int ilc, .int igl, .int ibk, .int ifa, .int ibd])), (r1, .inr (5, [.ref r2, .ref r3, .int vzr, .int (nI pw), .int (nI ph), .int vkr])), (r2, .inl (cI, 144, .inl pxr)), (r3, .inl (cI, 9, .inl mdr))]) ⟨hx, hb, hml, hown, hts⟩ (c_isChoice l hcI 2) (va_cwS 1 hts (cs_gS mw_518 mw_519 mw_139 mw_77) rfl rfl rfl hd_TileForge_isChoice ⟨Nat.le_of_ble_eq_true rfl, Nat.le_of_ble_eq_true rfl⟩) hN hK hP hD hS hA [] [0, 1, 2, 3] rfl rfl rfl rfl (by decide) rfl rfl hl.1 (Nat.le_of_ble_eq_true rfl) d_TileForge_apart_1 ⟨Nat.le_of_ble_eq_true rfl, Nat.le_of_ble_eq_true rfl⟩ (fun r1 w1 H locs hw hP hD hS => ?_)
  obtain ⟨rfl, rfl⟩ := hw
  have hP : va_P D vwCl [(f0, .inr (8, [.ref a1, .ref c1, .ref r1, .ref y1, .ref k1, .ref j1, .int ibc, .int ilc, .int igl, .int ibk, .int ifa, .int ibd])), (r1, .inr (5, [.ref r2, .ref r3, .int vzr, .int (nI pw), .int (nI ph), .int vkr])), (r2, .inl (cI, 144, .inl pxr)), (r3, .inl (cI, 9, .inl mdr))] H := hP
  have hD : va_D A [(f0, .inr (8, [.ref a1, .ref c1, .ref r1, .ref y1, .ref k1, .ref j1, .int ibc, .int ilc, .int igl, .int ibk, .int ifa, .int ibd])), (r1, .inr (5, [.ref r2, .ref r3, .int vzr, .int (nI pw), .int (nI ph), .int vkr])), (r2, .inl (cI, 144, .inl pxr)), (r3, .inl (cI, 9, .inl mdr))] := hD
  refine lv_if_eq (tgt := 14) hx hb d_TileForge_apart_4 (by decide) (fun c_4 => ?_) (fun c_4 => ?_)
  · have c_4 := cs_b0 c_4
    exact absurd (by decide) c_4
  · have c_4 := cs_b1 c_4
    refine lv_iload_n hx hb d_TileForge_apart_7 rfl (lv_at hl 2 rfl) ?_
    refine cs_Si (As := [.int 2]) (rest := []) (wr := [(f0, .inr (8, [.ref a1, .ref c1, .ref r1, .ref y1, .ref k1, .ref j1, .int ibc, .int ilc, .int igl, .int ibk, .int ifa, .int ibd])), (r1, .inr (5, [.ref r2, .ref r3, .int vzr, .int (nI pw), .int (nI ph), .int vkr])), (r2, .inl (cI, 144, .inl pxr)), (r3, .inl (cI, 9, .inl mdr))]) ⟨hx, hb, hml, hown, hts⟩ (c_isChoice l hcI 2) (va_cwS 1 hts (cs_gS mw_518 mw_519 mw_139 mw_77) rfl rfl rfl hd_TileForge_isChoice ⟨Nat.le_of_ble_eq_true rfl, Nat.le_of_ble_eq_true rfl⟩) hN hK hP hD hS hA [] [0, 1, 2, 3] rfl rfl rfl rfl (by decide) rfl rfl hl.1 (Nat.le_of_ble_eq_true rfl) d_TileForge_apart_8 ⟨Nat.le_of_ble_eq_true rfl, Nat.le_of_ble_eq_true rfl⟩ (fun r2 w1 H locs hw hP hD hS => ?_)
    obtain ⟨rfl, rfl⟩ := hw
    have hP : va_P D vwCl [(f0, .inr (8, [.ref a1, .ref c1, .ref r1, .ref y1, .ref k1, .ref j1, .int ibc, .int ilc, .int igl, .int ibk, .int ifa, .int ibd])), (r1, .inr (5, [.ref r2, .ref r3, .int vzr, .int (nI pw), .int (nI ph), .int vkr])), (r2, .inl (cI, 144, .inl pxr)), (r3, .inl (cI, 9, .inl mdr))] H := hP
    have hD : va_D A [(f0, .inr (8, [.ref a1, .ref c1, .ref r1, .ref y1, .ref k1, .ref j1, .int ibc, .int ilc, .int igl, .int ibk, .int ifa, .int ibd])), (r1, .inr (5, [.ref r2, .ref r3, .int vzr, .int (nI pw), .int (nI ph), .int vkr])), (r2, .inl (cI, 144, .inl pxr)), (r3, .inl (cI, 9, .inl mdr))] := hD
    refine lv_if_ne (tgt := 22) hx hb d_TileForge_apart_11 (by decide) (fun c_11 => ?_) (fun c_11 => ?_)
    · have c_11 := cs_b1 c_11
      refine lv_aload_n hx hb d_TileForge_apart_22 rfl (lv_at hl 0 rfl) ?_
      refine lv_iload_n hx hb d_TileForge_apart_23 rfl (lv_at hl 1 rfl) ?_
      refine cs_Vr (As := [.int 2]) (rest := []) (wr := [(r1, .inr (5, [.ref r2, .ref r3, .int vzr, .int (nI pw), .int (nI ph), .int vkr])), (r2, .inl (cI, 144, .inl pxr)), (r3, .inl (cI, 9, .inl mdr))]) ⟨hx, hb, hml, hown, hts⟩ (c_tf_choose2 l hcI f0 a1 c1 r1 y1 k1 j1 ibc ilc igl ibk ifa ibd) (cwV 1 hts (cs_gV mw_520 mw_521 mw_522 mw_139 mw_472) rfl rfl rfl ⟨rfl, hd_TileForge_choose⟩ ⟨Nat.le_of_ble_eq_true rfl, Nat.le_of_ble_eq_true rfl⟩) hN hK hP hD hS hA [0] [1, 2, 3] rfl rfl rfl rfl (by decide) (ci := 8) rfl rfl rfl rfl rfl hl.1 (Nat.le_of_ble_eq_true rfl) d_TileForge_apart_24 ⟨Nat.le_of_ble_eq_true rfl, Nat.le_of_ble_eq_true rfl⟩ (fun r3 w1 H locs hw hP hD hS => ?_)
      obtain ⟨hrr, rfl⟩ := hw
      have hrr := hrr.symm
      subst hrr
      have hP : va_P D vwCl [(r1, .inr (5, [.ref r2, .ref r3, .int vzr, .int (nI pw), .int (nI ph), .int vkr])), (r2, .inl (cI, 144, .inl pxr)), (r3, .inl (cI, 9, .inl mdr)), (f0, .inr (8, [.ref a1, .ref c1, .ref r1, .ref y1, .ref k1, .ref j1, .int ibc, .int ilc, .int igl, .int ibk, .int ifa, .int ibd]))] H := hP
      have hD : va_D A [(r1, .inr (5, [.ref r2, .ref r3, .int vzr, .int (nI pw), .int (nI ph), .int vkr])), (r2, .inl (cI, 144, .inl pxr)), (r3, .inl (cI, 9, .inl mdr)), (f0, .inr (8, [.ref a1, .ref c1, .ref r1, .ref y1, .ref k1, .ref j1, .int ibc, .int ilc, .int igl, .int ibk, .int ifa, .int ibd]))] := hD
      refine lv_astore_n (lv' := [(3, .ref r1), (0, .ref f0), (1, .int 2), (2, .int 2)]) hx hb d_TileForge_apart_27 rfl hl (by decide) rfl (fun ls hl => ?_)
      refine lv_aload_n hx hb d_TileForge_apart_28 rfl (lv_at hl 1 rfl) ?_
      refine lv_iload_n hx hb d_TileForge_apart_29 rfl (lv_at hl 3 rfl) ?_
      refine cs_Vr (As := [.int 2]) (rest := []) (wr := [(r1, .inr (5, [.ref r2, .ref r3, .int vzr, .int (nI pw), .int (nI ph), .int vkr])), (r2, .inl (cI, 144, .inl pxr)), (r3, .inl (cI, 9, .inl mdr))]) ⟨hx, hb, hml, hown, hts⟩ (c_tf_choose2 l hcI f0 a1 c1 r1 y1 k1 j1 ibc ilc igl ibk ifa ibd) (cwV 1 hts (cs_gV mw_520 mw_521 mw_522 mw_139 mw_472) rfl rfl rfl ⟨rfl, hd_TileForge_choose⟩ ⟨Nat.le_of_ble_eq_true rfl, Nat.le_of_ble_eq_true rfl⟩) hN hK hP hD hS hA [3] [0, 1, 2] rfl rfl rfl rfl (by decide) (ci := 8) rfl rfl rfl rfl rfl hl.1 (Nat.le_of_ble_eq_true rfl) d_TileForge_apart_30 ⟨Nat.le_of_ble_eq_true rfl, Nat.le_of_ble_eq_true rfl⟩ (fun r4 w1 H locs hw hP hD hS => ?_)
      obtain ⟨hrr, rfl⟩ := hw
      have hrr := hrr.symm
      subst hrr
      have hP : va_P D vwCl [(r1, .inr (5, [.ref r2, .ref r3, .int vzr, .int (nI pw), .int (nI ph), .int vkr])), (r2, .inl (cI, 144, .inl pxr)), (r3, .inl (cI, 9, .inl mdr)), (f0, .inr (8, [.ref a1, .ref c1, .ref r1, .ref y1, .ref k1, .ref j1, .int ibc, .int ilc, .int igl, .int ibk, .int ifa, .int ibd]))] H := hP
      have hD : va_D A [(r1, .inr (5, [.ref r2, .ref r3, .int vzr, .int (nI pw), .int (nI ph), .int vkr])), (r2, .inl (cI, 144, .inl pxr)), (r3, .inl (cI, 9, .inl mdr)), (f0, .inr (8, [.ref a1, .ref c1, .ref r1, .ref y1, .ref k1, .ref j1, .int ibc, .int ilc, .int igl, .int ibk, .int ifa, .int ibd]))] := hD
      refine lv_astore (lv' := [(4, .ref r1), (3, .ref r1), (0, .ref f0), (1, .int 2), (2, .int 2)]) hx hb d_TileForge_apart_33 hl (by decide) rfl (fun ls hl => ?_)
      refine lv_aload_n hx hb d_TileForge_apart_35 rfl (lv_at hl 1 rfl) ?_
      refine va_get (D := D) (ci := 5) (v := .int vzr) (C := "TileForge$Picture") (T := T_Picture) (N := 6) hx hb hts (cs_in in_Picture) hown hK hP 0 rfl rfl 2 (by decide) (hts _ (cs_m mw_523)) (fun _ h9 => h9) rfl d_TileForge_apart_36 ?_
      refine lv_if_eq (tgt := 50) hx hb d_TileForge_apart_39 (by decide) (fun c_39 => ?_) (fun c_39 => ?_)
      · exact absurd c_39 hm1
      · refine lv_aload hx hb d_TileForge_apart_42 (lv_at hl 0 rfl) ?_
        refine va_get (D := D) (ci := 5) (v := .int vzr) (C := "TileForge$Picture") (T := T_Picture) (N := 6) hx hb hts (cs_in in_Picture) hown hK hP 0 rfl rfl 2 (by decide) (hts _ (cs_m mw_523)) (fun _ h9 => h9) rfl d_TileForge_apart_44 ?_
        refine lv_if_ne (tgt := 58) hx hb d_TileForge_apart_47 (by decide) (fun c_47 => ?_) (fun c_47 => ?_)
        · refine lv_aload_n hx hb d_TileForge_apart_58 rfl (lv_at hl 1 rfl) ?_
          refine va_get (D := D) (ci := 5) (v := .int (nI pw)) (C := "TileForge$Picture") (T := T_Picture) (N := 6) hx hb hts (cs_in in_Picture) hown hK hP 0 rfl rfl 3 (by decide) (hts _ (cs_m mw_478)) (fun _ h9 => h9) rfl d_TileForge_apart_59 ?_
          refine lv_aload hx hb d_TileForge_apart_62 (lv_at hl 0 rfl) ?_
          refine va_get (D := D) (ci := 5) (v := .int (nI pw)) (C := "TileForge$Picture") (T := T_Picture) (N := 6) hx hb hts (cs_in in_Picture) hown hK hP 0 rfl rfl 3 (by decide) (hts _ (cs_m mw_478)) (fun _ h9 => h9) rfl d_TileForge_apart_64 ?_
          refine lv_icmp_ne (tgt := 82) hx hb d_TileForge_apart_67 (by decide) (fun c_67 => ?_) (fun c_67 => ?_)
          · exact absurd rfl c_67
          · refine lv_aload_n hx hb d_TileForge_apart_70 rfl (lv_at hl 1 rfl) ?_
            refine va_get (D := D) (ci := 5) (v := .int (nI ph)) (C := "TileForge$Picture") (T := T_Picture) (N := 6) hx hb hts (cs_in in_Picture) hown hK hP 0 rfl rfl 4 (by decide) (hts _ (cs_m mw_477)) (fun _ h9 => h9) rfl d_TileForge_apart_71 ?_
            refine lv_aload hx hb d_TileForge_apart_74 (lv_at hl 0 rfl) ?_
            refine va_get (D := D) (ci := 5) (v := .int (nI ph)) (C := "TileForge$Picture") (T := T_Picture) (N := 6) hx hb hts (cs_in in_Picture) hown hK hP 0 rfl rfl 4 (by decide) (hts _ (cs_m mw_477)) (fun _ h9 => h9) rfl d_TileForge_apart_76 ?_
            refine lv_icmp_eq (tgt := 90) hx hb d_TileForge_apart_79 (by decide) (fun c_79 => ?_) (fun c_79 => ?_)
            · refine lv_aload_n hx hb d_TileForge_apart_90 rfl (lv_at hl 1 rfl) ?_
              refine lv_aload hx hb d_TileForge_apart_91 (lv_at hl 0 rfl) ?_
              refine cs_Sd (As := [.ref r1, .ref r1]) (rest := []) (wr := [(f0, .inr (8, [.ref a1, .ref c1, .ref r1, .ref y1, .ref k1, .ref j1, .int ibc, .int ilc, .int igl, .int ibk, .int ifa, .int ibd]))]) ⟨hx, hb, hml, hown, hts⟩ (c_tf_mos1 l hcI r1 r2 r3 pxr mdr vzr vkr pw ph (hpw) (hph)) (va_cwS 2 hts (cs_gS mw_525 mw_526 mw_139 mw_476) rfl rfl rfl hd_TileForge_meanOfSquares ⟨Nat.le_of_ble_eq_true rfl, Nat.le_of_ble_eq_true rfl⟩) hN hK hP hD hS hA [0, 1, 2] [3] rfl rfl rfl rfl (by decide) rfl rfl hl.1 (Nat.le_of_ble_eq_true rfl) d_TileForge_apart_93 ⟨Nat.le_of_ble_eq_true rfl, Nat.le_of_ble_eq_true rfl⟩ (fun r5 w1 H locs hw hP hD hS => ?_)
              obtain ⟨rfl, rfl⟩ := hw
              have hP : va_P D vwCl [(f0, .inr (8, [.ref a1, .ref c1, .ref r1, .ref y1, .ref k1, .ref j1, .int ibc, .int ilc, .int igl, .int ibk, .int ifa, .int ibd])), (r1, .inr (5, [.ref r2, .ref r3, .int vzr, .int (nI pw), .int (nI ph), .int vkr])), (r2, .inl (cI, 144, .inl pxr)), (r3, .inl (cI, 9, .inl mdr))] H := hP
              have hD : va_D A [(f0, .inr (8, [.ref a1, .ref c1, .ref r1, .ref y1, .ref k1, .ref j1, .int ibc, .int ilc, .int igl, .int ibk, .int ifa, .int ibd])), (r1, .inr (5, [.ref r2, .ref r3, .int vzr, .int (nI pw), .int (nI ph), .int vkr])), (r2, .inl (cI, 144, .inl pxr)), (r3, .inl (cI, 9, .inl mdr))] := hD
              exact W.dret (v := (FP.ddiv (FP.i2d (apY pxr pxr pw ph)) (FP.i2d (nI (pw * ph))))) hx hb hr (fun t ht hW => ⟨⟨(FP.ddiv (FP.i2d (apY pxr pxr pw ph)) (FP.i2d (nI (pw * ph)))), [(f0, .inr (8, [.ref a1, .ref c1, .ref r1, .ref y1, .ref k1, .ref j1, .int ibc, .int ilc, .int igl, .int ibk, .int ifa, .int ibd])), (r1, .inr (5, [.ref r2, .ref r3, .int vzr, .int (nI pw), .int (nI ph), .int vkr])), (r2, .inl (cI, 144, .inl pxr)), (r3, .inl (cI, 9, .inl mdr))], rfl, ⟨(rfl), (rfl)⟩, by rw [ht]; exact hP, va_K.moved hW.alike hK, hD⟩, hS.F ht⟩) hS.2.2 d_TileForge_apart_96
            · exact absurd rfl c_79
        · exact absurd c_47 hm2
    · have c_11 := cs_b0 c_11
      exact absurd (by decide) c_11
def y_TileForge_mode : MethodName := ⟨"TileForge", "mode", "(ZI)I"⟩
def ws_TileForge_mode : List Cond := .code y_TileForge_mode prog_1_method_12_code 4 (some .int) :: GW
theorem mw_527 : (.code ⟨"TileForge", "mode", "(ZI)I"⟩ prog_1_method_12_code 4 (some .int) : Cond) ∈ GW := List.mem_filter.mpr ⟨(List.mem_append_right _ (List.mem_append_right _ (List.mem_append_right _ (List.mem_append_left _ (List.mem_of_getElem? (i := 180) rfl))))), rfl⟩
theorem hd_TileForge_mode : y_TileForge_mode.cls ≠ "java/lang/invoke/MethodHandle" ∧ y_TileForge_mode.cls ≠ "java/lang/invoke/VarHandle" ∧ (parseMethodDescriptor y_TileForge_mode.desc).map (fun d => d.parameters.length) = some 2 := by decide +kernel
theorem d_TileForge_mode_0 : decode prog_1_method_12_code 0 = .ok (.iload_n 1, 1) := by decide +kernel
theorem d_TileForge_mode_1 : decode prog_1_method_12_code 1 = .ok (.ifCond .eq 10, 3) := by decide +kernel
theorem d_TileForge_mode_4 : decode prog_1_method_12_code 4 = .ok (.aload_n 0, 1) := by decide +kernel
theorem d_TileForge_mode_5 : decode prog_1_method_12_code 5 = .ok (.getfield 23, 3) := by decide +kernel
theorem d_TileForge_mode_8 : decode prog_1_method_12_code 8 = .ok (.goto 7, 3) := by decide +kernel
theorem d_TileForge_mode_11 : decode prog_1_method_12_code 11 = .ok (.aload_n 0, 1) := by decide +kernel
theorem d_TileForge_mode_12 : decode prog_1_method_12_code 12 = .ok (.getfield 20, 3) := by decide +kernel
theorem d_TileForge_mode_15 : decode prog_1_method_12_code 15 = .ok (.astore_n 3, 1) := by decide +kernel
theorem d_TileForge_mode_16 : decode prog_1_method_12_code 16 = .ok (.aload_n 3, 1) := by decide +kernel
theorem d_TileForge_mode_17 : decode prog_1_method_12_code 17 = .ok (.iload_n 2, 1) := by decide +kernel
theorem d_TileForge_mode_18 : decode prog_1_method_12_code 18 = .ok (.invokevirtual 159, 3) := by decide +kernel
theorem d_TileForge_mode_21 : decode prog_1_method_12_code 21 = .ok (.ifCond .ne 11, 3) := by decide +kernel
theorem d_TileForge_mode_24 : decode prog_1_method_12_code 24 = .ok (.new 61, 3) := by decide +kernel
theorem d_TileForge_mode_27 : decode prog_1_method_12_code 27 = .ok (.dup, 1) := by decide +kernel
theorem d_TileForge_mode_28 : decode prog_1_method_12_code 28 = .ok (.invokespecial 63, 3) := by decide +kernel
theorem d_TileForge_mode_31 : decode prog_1_method_12_code 31 = .ok (.athrow, 1) := by decide +kernel
theorem d_TileForge_mode_32 : decode prog_1_method_12_code 32 = .ok (.aload_n 3, 1) := by decide +kernel
theorem d_TileForge_mode_33 : decode prog_1_method_12_code 33 = .ok (.getfield 162, 3) := by decide +kernel
theorem d_TileForge_mode_36 : decode prog_1_method_12_code 36 = .ok (.iload_n 2, 1) := by decide +kernel
theorem d_TileForge_mode_37 : decode prog_1_method_12_code 37 = .ok (.iaload, 1) := by decide +kernel
theorem d_TileForge_mode_38 : decode prog_1_method_12_code 38 = .ok (.ireturn, 1) := by decide +kernel
theorem mw_528 : (.methodLink "TileForge" 159 ⟨"TileForge$Picture", "hasMode", "(I)Z"⟩ : Cond) ∈ GW := List.mem_filter.mpr ⟨(List.mem_append_right _ (List.mem_append_right _ (List.mem_append_right _ (List.mem_append_left _ (List.mem_of_getElem? (i := 181) rfl))))), rfl⟩
theorem mw_529 : (.instanceMethod ⟨"TileForge$Picture", "hasMode", "(I)Z"⟩ : Cond) ∈ GW := List.mem_filter.mpr ⟨(List.mem_append_right _ (List.mem_append_right _ (List.mem_append_right _ (List.mem_append_left _ (List.mem_of_getElem? (i := 182) rfl))))), rfl⟩
theorem mw_530 : (.selects "TileForge$Picture" ⟨"TileForge$Picture", "hasMode", "(I)Z"⟩ ⟨"TileForge$Picture", "hasMode", "(I)Z"⟩ : Cond) ∈ GW := List.mem_filter.mpr ⟨(List.mem_append_right _ (List.mem_append_right _ (List.mem_append_right _ (List.mem_append_left _ (List.mem_of_getElem? (i := 183) rfl))))), rfl⟩
theorem mw_531 : (.fieldLink "TileForge" 162 "TileForge$Picture" "modes" "[I" : Cond) ∈ GW := List.mem_filter.mpr ⟨(List.mem_append_right _ (List.mem_append_left _ (List.mem_of_getElem? (i := 36) rfl))), rfl⟩
def q_tf_modeR (cI : ClassId) (f0 : Nat) (a1 : Nat) (c1 : Nat) (r1 : Nat) (y1 : Nat) (k1 : Nat) (j1 : Nat) (ibc : Int32) (ilc : Int32) (igl : Int32) (ibk : Int32) (ifa : Int32) (ibd : Int32) (r2 : Nat) (r3 : Nat) (pxr : Nat → Int32) (mdr : Nat → Int32) (vzr : Int32) (vwr : Int32) (vhr : Int32) (kn : Nat) (k : Nat) : Int32 → va_W → Prop := fun rr ww => rr = (mdr k) ∧ ww = [(f0, .inr (8, [.ref a1, .ref c1, .ref r1, .ref y1, .ref k1, .ref j1, .int ibc, .int ilc, .int igl, .int ibk, .int ifa, .int ibd])), (r1, .inr (5, [.ref r2, .ref r3, .int vzr, .int vwr, .int vhr, .int (nI kn)])), (r2, .inl (cI, 144, .inl pxr)), (r3, .inl (cI, 9, .inl mdr))]
set_option maxHeartbeats 4000000 in
set_option maxRecDepth 100000 in
theorem c_tf_modeR (l : Launch) {D : va_G} {tys : List (ClassId × FieldType)} {cI : ClassId} (hcI : tys[0]? = some (cI, .int)) (f0 : Nat) (a1 : Nat) (c1 : Nat) (r1 : Nat) (y1 : Nat) (k1 : Nat) (j1 : Nat) (ibc : Int32) (ilc : Int32) (igl : Int32) (ibk : Int32) (ifa : Int32) (ibd : Int32) (r2 : Nat) (r3 : Nat) (pxr : Nat → Int32) (mdr : Nat → Int32) (vzr : Int32) (vwr : Int32) (vhr : Int32) (kn : Nat) (k : Nat) (hk : k < kn) (hkn : kn ≤ 9) : CsI l D vwCl tys y_TileForge_mode ws_TileForge_mode ({ frames := 1, cells := 0, slots := 0, locals := 21 } : Room) [.ref f0, .int 1, .int (nI k)] [(f0, .inr (8, [.ref a1, .ref c1, .ref r1, .ref y1, .ref k1, .ref j1, .int ibc, .int ilc, .int igl, .int ibk, .int ifa, .int ibd])), (r1, .inr (5, [.ref r2, .ref r3, .int vzr, .int vwr, .int vhr, .int (nI kn)])), (r2, .inl (cI, 144, .inl pxr)), (r3, .inl (cI, 9, .inl mdr))] (q_tf_modeR cI f0 a1 c1 r1 y1 k1 j1 ibc ilc igl ibk ifa ibd r2 r3 pxr mdr vzr vwr vhr kn k) 0 0 := by
  intro sz
  refine Met.ofW (cc := prog_1_method_12_code) (maxL := 4) (ret := (some .int)) (by decide) rfl ?_
  intro p e s m args below meth c s₁ B hml hv
  obtain ⟨rfl, hsz, hP, hK, hD0, hN⟩ := hv
  have hx := B.exec
  have hb := B.bytes
  have hr := B.returns
  have hts := atoms_spec (ws := ws_TileForge_mode) B.pre
  have hown : s.vm.findClass "TileForge" = some m.cls := findClass_of_methodNamed B.named
  have hlocks := B.notSynchronized
  subst hsz
  have hD := hD0.self (sz := s.heap.size)
  generalize hAe : va_A [(f0, .inr (8, [.ref a1, .ref c1, .ref r1, .ref y1, .ref k1, .ref j1, .int ibc, .int ilc, .int igl, .int ibk, .int ifa, .int ibd])), (r1, .inr (5, [.ref r2, .ref r3, .int vzr, .int vwr, .int vhr, .int (nI kn)])), (r2, .inl (cI, 144, .inl pxr)), (r3, .inl (cI, 9, .inl mdr))] s.heap.size = A at hD ⊢
  have hA : ∀ q : Nat, s.heap.size ≤ q → A q := fun q h => by rw [← hAe]; exact Or.inr h
  have hS : va_S A s.heap s.heap [] := va_S.rf
  have hP : va_P D vwCl [(f0, .inr (8, [.ref a1, .ref c1, .ref r1, .ref y1, .ref k1, .ref j1, .int ibc, .int ilc, .int igl, .int ibk, .int ifa, .int ibd])), (r1, .inr (5, [.ref r2, .ref r3, .int vzr, .int vwr, .int vhr, .int (nI kn)])), (r2, .inl (cI, 144, .inl pxr)), (r3, .inl (cI, 9, .inl mdr))] s.heap := hP
  have hl := lv_entry ([.ref f0, .int 1, .int (nI k)]) (n := 4) (Nat.le_of_ble_eq_true rfl)
  rw [lg_entry_eq]
  generalize (lg_sl ([.ref f0, .int 1, .int (nI k)]) ++ List.replicate (4 - (lg_sl ([.ref f0, .int 1, .int (nI k)])).length) Slot.unset).toArray = ls at hl ⊢
  have hl : lv_has ls 4 [(0, .ref f0), (1, .int 1), (2, .int (nI k))] := hl
  refine lv_iload_n hx hb d_TileForge_mode_0 rfl (lv_at hl 1 rfl) ?_
  refine lv_if_eq (tgt := 11) hx hb d_TileForge_mode_1 (by decide) (fun c_1 => ?_) (fun c_1 => ?_)
  · exact absurd c_1 (by decide)
  · refine lv_aload_n hx hb d_TileForge_mode_4 rfl (lv_at hl 0 rfl) ?_
    refine va_get (D := D) (ci := 8) (v := .ref r1) (C := "TileForge") (T := T_TileForge) (N := 12) hx hb hts (cs_in in_TileForge) hown hK hP 0 rfl rfl 2 (by decide) (hts _ (cs_m mw_475)) (fun _ h9 => h9) rfl d_TileForge_mode_5 ?_
    refine lv_goto (tgt := 15) hx hb d_TileForge_mode_8 (by decide) ?_
    refine lv_astore_n (lv' := [(3, .ref r1), (0, .ref f0), (1, .int 1), (2, .int (nI k))]) hx hb d_TileForge_mode_15 rfl hl (by decide) rfl (fun ls hl => ?_)
    refine lv_aload_n hx hb d_TileForge_mode_16 rfl (lv_at hl 0 rfl) ?_
    refine lv_iload_n hx hb d_TileForge_mode_17 rfl (lv_at hl 3 rfl) ?_
    refine cs_Vi (As := [.int (nI k)]) (rest := []) (wr := [(f0, .inr (8, [.ref a1, .ref c1, .ref r1, .ref y1, .ref k1, .ref j1, .int ibc, .int ilc, .int igl, .int ibk, .int ifa, .int ibd]))]) ⟨hx, hb, hml, hown, hts⟩ (c_pic_hasMode l hcI r1 r2 r3 pxr mdr vzr vwr vhr (nI kn) (nI k)) (cwV 1 hts (cs_gV mw_528 mw_529 mw_530 mw_93 mw_98) rfl rfl rfl ⟨rfl, hd_Picture_hasMode⟩ ⟨Nat.le_of_ble_eq_true rfl, Nat.le_of_ble_eq_true rfl⟩) hN hK hP hD hS hA [1, 2, 3] [0] rfl rfl rfl rfl (by decide) (ci := 5) rfl rfl rfl rfl rfl hl.1 (Nat.le_of_ble_eq_true rfl) d_TileForge_mode_18 ⟨Nat.le_of_ble_eq_true rfl, Nat.le_of_ble_eq_true rfl⟩ (fun r1 w1 H locs hw hP hD hS => ?_)
    obtain ⟨rfl, rfl⟩ := hw
    have hP : va_P D vwCl [(f0, .inr (8, [.ref a1, .ref c1, .ref r1, .ref y1, .ref k1, .ref j1, .int ibc, .int ilc, .int igl, .int ibk, .int ifa, .int ibd])), (r1, .inr (5, [.ref r2, .ref r3, .int vzr, .int vwr, .int vhr, .int (nI kn)])), (r2, .inl (cI, 144, .inl pxr)), (r3, .inl (cI, 9, .inl mdr))] H := hP
    have hD : va_D A [(f0, .inr (8, [.ref a1, .ref c1, .ref r1, .ref y1, .ref k1, .ref j1, .int ibc, .int ilc, .int igl, .int ibk, .int ifa, .int ibd])), (r1, .inr (5, [.ref r2, .ref r3, .int vzr, .int vwr, .int vhr, .int (nI kn)])), (r2, .inl (cI, 144, .inl pxr)), (r3, .inl (cI, 9, .inl mdr))] := hD
    refine lv_if_ne (tgt := 32) hx hb d_TileForge_mode_21 (by decide) (fun c_21 => ?_) (fun c_21 => ?_)
    · have c_21 := cs_b1 c_21
      refine lv_aload_n hx hb d_TileForge_mode_32 rfl (lv_at hl 0 rfl) ?_
      refine va_get (D := D) (ci := 5) (v := .ref r3) (C := "TileForge$Picture") (T := T_Picture) (N := 6) hx hb hts (cs_in in_Picture) hown hK hP 1 rfl rfl 1 (by decide) (hts _ (cs_m mw_531)) (fun _ h9 => h9) rfl d_TileForge_mode_33 ?_
      refine lv_iload_n hx hb d_TileForge_mode_36 rfl (lv_at hl 3 rfl) ?_
      refine cs_iald (j := k) hx hb hK hcI hP 3 rfl (rfl) (by omega) (by decide) d_TileForge_mode_37 ?_
      exact W.iret (v := (mdr k)) hx hb hr (fun t ht hW => ⟨⟨(mdr k), [(f0, .inr (8, [.ref a1, .ref c1, .ref r1, .ref y1, .ref k1, .ref j1, .int ibc, .int ilc, .int igl, .int ibk, .int ifa, .int ibd])), (r1, .inr (5, [.ref r2, .ref r3, .int vzr, .int vwr, .int vhr, .int (nI kn)])), (r2, .inl (cI, 144, .inl pxr)), (r3, .inl (cI, 9, .inl mdr))], rfl, ⟨(rfl), (rfl)⟩, by rw [ht]; exact hP, va_K.moved hW.alike hK, hD⟩, hS.F ht⟩) hS.2.2 d_TileForge_mode_38
    · have c_21 := cs_b0 c_21
      exact absurd (⟨nI_pos (by omega), nI_ge hk (by omega), nI_ge (b := 9) (by omega) (by decide)⟩ : ¬ nI k < 0 ∧ ¬ nI kn ≤ nI k ∧ ¬ 9 ≤ nI k) c_21
def q_tf_modeC (cI : ClassId) (f0 : Nat) (a1 : Nat) (c1 : Nat) (r1 : Nat) (y1 : Nat) (k1 : Nat) (j1 : Nat) (ibc : Int32) (ilc : Int32) (igl : Int32) (ibk : Int32) (ifa : Int32) (ibd : Int32) (c2 : Nat) (c3 : Nat) (pxc : Nat → Int32) (mdc : Nat → Int32) (vzc : Int32) (vwc : Int32) (vhc : Int32) (kn : Nat) (k : Nat) : Int32 → va_W → Prop := fun rr ww => rr = (mdc k) ∧ ww = [(f0, .inr (8, [.ref a1, .ref c1, .ref r1, .ref y1, .ref k1, .ref j1, .int ibc, .int ilc, .int igl, .int ibk, .int ifa, .int ibd])), (c1, .inr (5, [.ref c2, .ref c3, .int vzc, .int vwc, .int vhc, .int (nI kn)])), (c2, .inl (cI, 144, .inl pxc)), (c3, .inl (cI, 9, .inl mdc))]
set_option maxHeartbeats 4000000 in
set_option maxRecDepth 100000 in
theorem c_tf_modeC (l : Launch) {D : va_G} {tys : List (ClassId × FieldType)} {cI : ClassId} (hcI : tys[0]? = some (cI, .int)) (f0 : Nat) (a1 : Nat) (c1 : Nat) (r1 : Nat) (y1 : Nat) (k1 : Nat) (j1 : Nat) (ibc : Int32) (ilc : Int32) (igl : Int32) (ibk : Int32) (ifa : Int32) (ibd : Int32) (c2 : Nat) (c3 : Nat) (pxc : Nat → Int32) (mdc : Nat → Int32) (vzc : Int32) (vwc : Int32) (vhc : Int32) (kn : Nat) (k : Nat) (hk : k < kn) (hkn : kn ≤ 9) : CsI l D vwCl tys y_TileForge_mode ws_TileForge_mode ({ frames := 1, cells := 0, slots := 0, locals := 21 } : Room) [.ref f0, .int 0, .int (nI k)] [(f0, .inr (8, [.ref a1, .ref c1, .ref r1, .ref y1, .ref k1, .ref j1, .int ibc, .int ilc, .int igl, .int ibk, .int ifa, .int ibd])), (c1, .inr (5, [.ref c2, .ref c3, .int vzc, .int vwc, .int vhc, .int (nI kn)])), (c2, .inl (cI, 144, .inl pxc)), (c3, .inl (cI, 9, .inl mdc))] (q_tf_modeC cI f0 a1 c1 r1 y1 k1 j1 ibc ilc igl ibk ifa ibd c2 c3 pxc mdc vzc vwc vhc kn k) 0 0 := by
  intro sz
  refine Met.ofW (cc := prog_1_method_12_code) (maxL := 4) (ret := (some .int)) (by decide) rfl ?_
  intro p e s m args below meth c s₁ B hml hv
  obtain ⟨rfl, hsz, hP, hK, hD0, hN⟩ := hv
  have hx := B.exec
  have hb := B.bytes
  have hr := B.returns
  have hts := atoms_spec (ws := ws_TileForge_mode) B.pre
  have hown : s.vm.findClass "TileForge" = some m.cls := findClass_of_methodNamed B.named
  have hlocks := B.notSynchronized
  subst hsz
  have hD := hD0.self (sz := s.heap.size)
  generalize hAe : va_A [(f0, .inr (8, [.ref a1, .ref c1, .ref r1, .ref y1, .ref k1, .ref j1, .int ibc, .int ilc, .int igl, .int ibk, .int ifa, .int ibd])), (c1, .inr (5, [.ref c2, .ref c3, .int vzc, .int vwc, .int vhc, .int (nI kn)])), (c2, .inl (cI, 144, .inl pxc)), (c3, .inl (cI, 9, .inl mdc))] s.heap.size = A at hD ⊢
  have hA : ∀ q : Nat, s.heap.size ≤ q → A q := fun q h => by rw [← hAe]; exact Or.inr h
  have hS : va_S A s.heap s.heap [] := va_S.rf
  have hP : va_P D vwCl [(f0, .inr (8, [.ref a1, .ref c1, .ref r1, .ref y1, .ref k1, .ref j1, .int ibc, .int ilc, .int igl, .int ibk, .int ifa, .int ibd])), (c1, .inr (5, [.ref c2, .ref c3, .int vzc, .int vwc, .int vhc, .int (nI kn)])), (c2, .inl (cI, 144, .inl pxc)), (c3, .inl (cI, 9, .inl mdc))] s.heap := hP
  have hl := lv_entry ([.ref f0, .int 0, .int (nI k)]) (n := 4) (Nat.le_of_ble_eq_true rfl)
  rw [lg_entry_eq]
  generalize (lg_sl ([.ref f0, .int 0, .int (nI k)]) ++ List.replicate (4 - (lg_sl ([.ref f0, .int 0, .int (nI k)])).length) Slot.unset).toArray = ls at hl ⊢
  have hl : lv_has ls 4 [(0, .ref f0), (1, .int 0), (2, .int (nI k))] := hl
  refine lv_iload_n hx hb d_TileForge_mode_0 rfl (lv_at hl 1 rfl) ?_
  refine lv_if_eq (tgt := 11) hx hb d_TileForge_mode_1 (by decide) (fun c_1 => ?_) (fun c_1 => ?_)
  · refine lv_aload_n hx hb d_TileForge_mode_11 rfl (lv_at hl 0 rfl) ?_
    refine va_get (D := D) (ci := 8) (v := .ref c1) (C := "TileForge") (T := T_TileForge) (N := 12) hx hb hts (cs_in in_TileForge) hown hK hP 0 rfl rfl 1 (by decide) (hts _ (cs_m mw_474)) (fun _ h9 => h9) rfl d_TileForge_mode_12 ?_
    refine lv_astore_n (lv' := [(3, .ref c1), (0, .ref f0), (1, .int 0), (2, .int (nI k))]) hx hb d_TileForge_mode_15 rfl hl (by decide) rfl (fun ls hl => ?_)
    refine lv_aload_n hx hb d_TileForge_mode_16 rfl (lv_at hl 0 rfl) ?_
    refine lv_iload_n hx hb d_TileForge_mode_17 rfl (lv_at hl 3 rfl) ?_
    refine cs_Vi (As := [.int (nI k)]) (rest := []) (wr := [(f0, .inr (8, [.ref a1, .ref c1, .ref r1, .ref y1, .ref k1, .ref j1, .int ibc, .int ilc, .int igl, .int ibk, .int ifa, .int ibd]))]) ⟨hx, hb, hml, hown, hts⟩ (c_pic_hasMode l hcI c1 c2 c3 pxc mdc vzc vwc vhc (nI kn) (nI k)) (cwV 1 hts (cs_gV mw_528 mw_529 mw_530 mw_93 mw_98) rfl rfl rfl ⟨rfl, hd_Picture_hasMode⟩ ⟨Nat.le_of_ble_eq_true rfl, Nat.le_of_ble_eq_true rfl⟩) hN hK hP hD hS hA [1, 2, 3] [0] rfl rfl rfl rfl (by decide) (ci := 5) rfl rfl rfl rfl rfl hl.1 (Nat.le_of_ble_eq_true rfl) d_TileForge_mode_18 ⟨Nat.le_of_ble_eq_true rfl, Nat.le_of_ble_eq_true rfl⟩ (fun r1 w1 H locs hw hP hD hS => ?_)
    obtain ⟨rfl, rfl⟩ := hw
    have hP : va_P D vwCl [(f0, .inr (8, [.ref a1, .ref c1, .ref r1, .ref y1, .ref k1, .ref j1, .int ibc, .int ilc, .int igl, .int ibk, .int ifa, .int ibd])), (c1, .inr (5, [.ref c2, .ref c3, .int vzc, .int vwc, .int vhc, .int (nI kn)])), (c2, .inl (cI, 144, .inl pxc)), (c3, .inl (cI, 9, .inl mdc))] H := hP
    have hD : va_D A [(f0, .inr (8, [.ref a1, .ref c1, .ref r1, .ref y1, .ref k1, .ref j1, .int ibc, .int ilc, .int igl, .int ibk, .int ifa, .int ibd])), (c1, .inr (5, [.ref c2, .ref c3, .int vzc, .int vwc, .int vhc, .int (nI kn)])), (c2, .inl (cI, 144, .inl pxc)), (c3, .inl (cI, 9, .inl mdc))] := hD
    refine lv_if_ne (tgt := 32) hx hb d_TileForge_mode_21 (by decide) (fun c_21 => ?_) (fun c_21 => ?_)
    · have c_21 := cs_b1 c_21
      refine lv_aload_n hx hb d_TileForge_mode_32 rfl (lv_at hl 0 rfl) ?_
      refine va_get (D := D) (ci := 5) (v := .ref c3) (C := "TileForge$Picture") (T := T_Picture) (N := 6) hx hb hts (cs_in in_Picture) hown hK hP 1 rfl rfl 1 (by decide) (hts _ (cs_m mw_531)) (fun _ h9 => h9) rfl d_TileForge_mode_33 ?_
      refine lv_iload_n hx hb d_TileForge_mode_36 rfl (lv_at hl 3 rfl) ?_
      refine cs_iald (j := k) hx hb hK hcI hP 3 rfl (rfl) (by omega) (by decide) d_TileForge_mode_37 ?_
      exact W.iret (v := (mdc k)) hx hb hr (fun t ht hW => ⟨⟨(mdc k), [(f0, .inr (8, [.ref a1, .ref c1, .ref r1, .ref y1, .ref k1, .ref j1, .int ibc, .int ilc, .int igl, .int ibk, .int ifa, .int ibd])), (c1, .inr (5, [.ref c2, .ref c3, .int vzc, .int vwc, .int vhc, .int (nI kn)])), (c2, .inl (cI, 144, .inl pxc)), (c3, .inl (cI, 9, .inl mdc))], rfl, ⟨(rfl), (rfl)⟩, by rw [ht]; exact hP, va_K.moved hW.alike hK, hD⟩, hS.F ht⟩) hS.2.2 d_TileForge_mode_38
    · have c_21 := cs_b0 c_21
      exact absurd (⟨nI_pos (by omega), nI_ge hk (by omega), nI_ge (b := 9) (by omega) (by decide)⟩ : ¬ nI k < 0 ∧ ¬ nI kn ≤ nI k ∧ ¬ 9 ≤ nI k) c_21
  · exact absurd c_1 (by decide)
def y_TileForge_count : MethodName := ⟨"TileForge", "count", "(I)I"⟩
def ws_TileForge_count : List Cond := .code y_TileForge_count prog_1_method_13_code 2 (some .int) :: GW
theorem mw_532 : (.code ⟨"TileForge", "count", "(I)I"⟩ prog_1_method_13_code 2 (some .int) : Cond) ∈ GW := List.mem_filter.mpr ⟨(List.mem_append_right _ (List.mem_append_right _ (List.mem_append_right _ (List.mem_append_left _ (List.mem_of_getElem? (i := 191) rfl))))), rfl⟩
theorem hd_TileForge_count : y_TileForge_count.cls ≠ "java/lang/invoke/MethodHandle" ∧ y_TileForge_count.cls ≠ "java/lang/invoke/VarHandle" ∧ (parseMethodDescriptor y_TileForge_count.desc).map (fun d => d.parameters.length) = some 1 := by decide +kernel
theorem d_TileForge_count_0 : decode prog_1_method_13_code 0 = .ok (.iload_n 1, 1) := by decide +kernel
theorem d_TileForge_count_1 : decode prog_1_method_13_code 1 = .ok (.tableswitch 93 0 7 #[47, 55, 63, 68, 73, 78, 83, 88], 47) := by decide +kernel
theorem d_TileForge_count_48 : decode prog_1_method_13_code 48 = .ok (.aload_n 0, 1) := by decide +kernel
theorem d_TileForge_count_49 : decode prog_1_method_13_code 49 = .ok (.getfield 10, 3) := by decide +kernel
theorem d_TileForge_count_52 : decode prog_1_method_13_code 52 = .ok (.getfield 79, 3) := by decide +kernel
theorem d_TileForge_count_55 : decode prog_1_method_13_code 55 = .ok (.ireturn, 1) := by decide +kernel
theorem d_TileForge_count_56 : decode prog_1_method_13_code 56 = .ok (.aload_n 0, 1) := by decide +kernel
theorem d_TileForge_count_57 : decode prog_1_method_13_code 57 = .ok (.getfield 10, 3) := by decide +kernel
theorem d_TileForge_count_60 : decode prog_1_method_13_code 60 = .ok (.getfield 75, 3) := by decide +kernel
theorem d_TileForge_count_63 : decode prog_1_method_13_code 63 = .ok (.ireturn, 1) := by decide +kernel
theorem d_TileForge_count_64 : decode prog_1_method_13_code 64 = .ok (.aload_n 0, 1) := by decide +kernel
theorem d_TileForge_count_65 : decode prog_1_method_13_code 65 = .ok (.getfield 165, 3) := by decide +kernel
theorem d_TileForge_count_68 : decode prog_1_method_13_code 68 = .ok (.ireturn, 1) := by decide +kernel
theorem d_TileForge_count_69 : decode prog_1_method_13_code 69 = .ok (.aload_n 0, 1) := by decide +kernel
theorem d_TileForge_count_70 : decode prog_1_method_13_code 70 = .ok (.getfield 168, 3) := by decide +kernel
theorem d_TileForge_count_73 : decode prog_1_method_13_code 73 = .ok (.ireturn, 1) := by decide +kernel
theorem d_TileForge_count_74 : decode prog_1_method_13_code 74 = .ok (.aload_n 0, 1) := by decide +kernel
theorem d_TileForge_count_75 : decode prog_1_method_13_code 75 = .ok (.getfield 171, 3) := by decide +kernel
theorem d_TileForge_count_78 : decode prog_1_method_13_code 78 = .ok (.ireturn, 1) := by decide +kernel
theorem d_TileForge_count_79 : decode prog_1_method_13_code 79 = .ok (.aload_n 0, 1) := by decide +kernel
theorem d_TileForge_count_80 : decode prog_1_method_13_code 80 = .ok (.getfield 129, 3) := by decide +kernel
theorem d_TileForge_count_83 : decode prog_1_method_13_code 83 = .ok (.ireturn, 1) := by decide +kernel
theorem d_TileForge_count_84 : decode prog_1_method_13_code 84 = .ok (.aload_n 0, 1) := by decide +kernel
theorem d_TileForge_count_85 : decode prog_1_method_13_code 85 = .ok (.getfield 123, 3) := by decide +kernel
theorem d_TileForge_count_88 : decode prog_1_method_13_code 88 = .ok (.ireturn, 1) := by decide +kernel
theorem d_TileForge_count_89 : decode prog_1_method_13_code 89 = .ok (.aload_n 0, 1) := by decide +kernel
theorem d_TileForge_count_90 : decode prog_1_method_13_code 90 = .ok (.getfield 135, 3) := by decide +kernel
theorem d_TileForge_count_93 : decode prog_1_method_13_code 93 = .ok (.ireturn, 1) := by decide +kernel
theorem d_TileForge_count_94 : decode prog_1_method_13_code 94 = .ok (.new 51, 3) := by decide +kernel
theorem d_TileForge_count_97 : decode prog_1_method_13_code 97 = .ok (.dup, 1) := by decide +kernel
theorem d_TileForge_count_98 : decode prog_1_method_13_code 98 = .ok (.invokespecial 53, 3) := by decide +kernel
theorem d_TileForge_count_101 : decode prog_1_method_13_code 101 = .ok (.athrow, 1) := by decide +kernel
theorem mw_533 : (.fieldLink "TileForge" 129 "TileForge" "blocksRead" "I" : Cond) ∈ GW := List.mem_filter.mpr ⟨(List.mem_append_right _ (List.mem_append_left _ (List.mem_of_getElem? (i := 222) rfl))), rfl⟩
theorem mw_534 : (.fieldLink "TileForge" 123 "TileForge" "fate" "I" : Cond) ∈ GW := List.mem_filter.mpr ⟨(List.mem_append_right _ (List.mem_append_left _ (List.mem_of_getElem? (i := 223) rfl))), rfl⟩
theorem mw_535 : (.fieldLink "TileForge" 135 "TileForge" "bitsRead" "I" : Cond) ∈ GW := List.mem_filter.mpr ⟨(List.mem_append_right _ (List.mem_append_left _ (List.mem_of_getElem? (i := 224) rfl))), rfl⟩
def q_tf_count (cI : ClassId) (f0 : Nat) (a1 : Nat) (c1 : Nat) (r1 : Nat) (y1 : Nat) (k1 : Nat) (j1 : Nat) (ibc : Int32) (ilc : Int32) (igl : Int32) (ibk : Int32) (ifa : Int32) (ibd : Int32) (a2 : Nat) (a3 : Nat) (px : Nat → Int32) (md : Nat → Int32) (vz : Int32) (vw : Int32) (vh : Int32) (vk : Int32) (wt : Int32) : Int32 → va_W → Prop := fun rr ww => rr = (if wt = 0 then vw else if wt = 1 then vh else if wt = 2 then ibc else if wt = 3 then ilc else if wt = 4 then igl else if wt = 5 then ibk else if wt = 6 then ifa else ibd) ∧ ww = [(f0, .inr (8, [.ref a1, .ref c1, .ref r1, .ref y1, .ref k1, .ref j1, .int ibc, .int ilc, .int igl, .int ibk, .int ifa, .int ibd])), (a1, .inr (5, [.ref a2, .ref a3, .int vz, .int vw, .int vh, .int vk])), (a2, .inl (cI, 144, .inl px)), (a3, .inl (cI, 9, .inl md))]
set_option maxHeartbeats 4000000 in
set_option maxRecDepth 100000 in
theorem c_tf_count (l : Launch) {D : va_G} {tys : List (ClassId × FieldType)} {cI : ClassId} (hcI : tys[0]? = some (cI, .int)) (f0 : Nat) (a1 : Nat) (c1 : Nat) (r1 : Nat) (y1 : Nat) (k1 : Nat) (j1 : Nat) (ibc : Int32) (ilc : Int32) (igl : Int32) (ibk : Int32) (ifa : Int32) (ibd : Int32) (a2 : Nat) (a3 : Nat) (px : Nat → Int32) (md : Nat → Int32) (vz : Int32) (vw : Int32) (vh : Int32) (vk : Int32) (wt : Int32) (hwt : ¬ wt < 0 ∧ ¬ 7 < wt) : CsI l D vwCl tys y_TileForge_count ws_TileForge_count ({ frames := 0, cells := 0, slots := 0, locals := 0 } : Room) [.ref f0, .int wt] [(f0, .inr (8, [.ref a1, .ref c1, .ref r1, .ref y1, .ref k1, .ref j1, .int ibc, .int ilc, .int igl, .int ibk, .int ifa, .int ibd])), (a1, .inr (5, [.ref a2, .ref a3, .int vz, .int vw, .int vh, .int vk])), (a2, .inl (cI, 144, .inl px)), (a3, .inl (cI, 9, .inl md))] (q_tf_count cI f0 a1 c1 r1 y1 k1 j1 ibc ilc igl ibk ifa ibd a2 a3 px md vz vw vh vk wt) 0 0 := by
  intro sz
  refine Met.ofW (cc := prog_1_method_13_code) (maxL := 2) (ret := (some .int)) (by decide) rfl ?_
  intro p e s m args below meth c s₁ B hml hv
  obtain ⟨rfl, hsz, hP, hK, hD0, hN⟩ := hv
  have hx := B.exec
  have hb := B.bytes
  have hr := B.returns
  have hts := atoms_spec (ws := ws_TileForge_count) B.pre
  have hown : s.vm.findClass "TileForge" = some m.cls := findClass_of_methodNamed B.named
  have hlocks := B.notSynchronized
  subst hsz
  have hD := hD0.self (sz := s.heap.size)
  generalize hAe : va_A [(f0, .inr (8, [.ref a1, .ref c1, .ref r1, .ref y1, .ref k1, .ref j1, .int ibc, .int ilc, .int igl, .int ibk, .int ifa, .int ibd])), (a1, .inr (5, [.ref a2, .ref a3, .int vz, .int vw, .int vh, .int vk])), (a2, .inl (cI, 144, .inl px)), (a3, .inl (cI, 9, .inl md))] s.heap.size = A at hD ⊢
  have hA : ∀ q : Nat, s.heap.size ≤ q → A q := fun q h => by rw [← hAe]; exact Or.inr h
  have hS : va_S A s.heap s.heap [] := va_S.rf
  have hP : va_P D vwCl [(f0, .inr (8, [.ref a1, .ref c1, .ref r1, .ref y1, .ref k1, .ref j1, .int ibc, .int ilc, .int igl, .int ibk, .int ifa, .int ibd])), (a1, .inr (5, [.ref a2, .ref a3, .int vz, .int vw, .int vh, .int vk])), (a2, .inl (cI, 144, .inl px)), (a3, .inl (cI, 9, .inl md))] s.heap := hP
  have hl := lv_entry ([.ref f0, .int wt]) (n := 2) (Nat.le_of_ble_eq_true rfl)
  rw [lg_entry_eq]
  generalize (lg_sl ([.ref f0, .int wt]) ++ List.replicate (2 - (lg_sl ([.ref f0, .int wt])).length) Slot.unset).toArray = ls at hl ⊢
  have hl : lv_has ls 2 [(0, .ref f0), (1, .int wt)] := hl
  refine lv_iload_n hx hb d_TileForge_count_0 rfl (lv_at hl 1 rfl) ?_
  by_cases s_1_0 : wt = 0
  · refine cs_tin (k := 0) (tgt := 48) hx hb d_TileForge_count_1 s_1_0 (by decide) (by decide) rfl (by decide) ?_
    refine lv_aload_n hx hb d_TileForge_count_48 rfl (lv_at hl 0 rfl) ?_
    refine va_get (D := D) (ci := 8) (v := .ref a1) (C := "TileForge") (T := T_TileForge) (N := 12) hx hb hts (cs_in in_TileForge) hown hK hP 0 rfl rfl 0 (by decide) (hts _ (cs_m mw_473)) (fun _ h9 => h9) rfl d_TileForge_count_49 ?_
    refine va_get (D := D) (ci := 5) (v := .int vw) (C := "TileForge$Picture") (T := T_Picture) (N := 6) hx hb hts (cs_in in_Picture) hown hK hP 1 rfl rfl 3 (by decide) (hts _ (cs_m mw_478)) (fun _ h9 => h9) rfl d_TileForge_count_52 ?_
    exact W.iret (v := vw) hx hb hr (fun t ht hW => ⟨⟨vw, [(f0, .inr (8, [.ref a1, .ref c1, .ref r1, .ref y1, .ref k1, .ref j1, .int ibc, .int ilc, .int igl, .int ibk, .int ifa, .int ibd])), (a1, .inr (5, [.ref a2, .ref a3, .int vz, .int vw, .int vh, .int vk])), (a2, .inl (cI, 144, .inl px)), (a3, .inl (cI, 9, .inl md))], rfl, ⟨(by simp [s_1_0]), (rfl)⟩, by rw [ht]; exact hP, va_K.moved hW.alike hK, hD⟩, hS.F ht⟩) hS.2.2 d_TileForge_count_55
  by_cases s_1_1 : wt = 1
  · refine cs_tin (k := 1) (tgt := 56) hx hb d_TileForge_count_1 s_1_1 (by decide) (by decide) rfl (by decide) ?_
    refine lv_aload_n hx hb d_TileForge_count_56 rfl (lv_at hl 0 rfl) ?_
    refine va_get (D := D) (ci := 8) (v := .ref a1) (C := "TileForge") (T := T_TileForge) (N := 12) hx hb hts (cs_in in_TileForge) hown hK hP 0 rfl rfl 0 (by decide) (hts _ (cs_m mw_473)) (fun _ h9 => h9) rfl d_TileForge_count_57 ?_
    refine va_get (D := D) (ci := 5) (v := .int vh) (C := "TileForge$Picture") (T := T_Picture) (N := 6) hx hb hts (cs_in in_Picture) hown hK hP 1 rfl rfl 4 (by decide) (hts _ (cs_m mw_477)) (fun _ h9 => h9) rfl d_TileForge_count_60 ?_
    exact W.iret (v := vh) hx hb hr (fun t ht hW => ⟨⟨vh, [(f0, .inr (8, [.ref a1, .ref c1, .ref r1, .ref y1, .ref k1, .ref j1, .int ibc, .int ilc, .int igl, .int ibk, .int ifa, .int ibd])), (a1, .inr (5, [.ref a2, .ref a3, .int vz, .int vw, .int vh, .int vk])), (a2, .inl (cI, 144, .inl px)), (a3, .inl (cI, 9, .inl md))], rfl, ⟨(by simp [s_1_0, s_1_1]), (rfl)⟩, by rw [ht]; exact hP, va_K.moved hW.alike hK, hD⟩, hS.F ht⟩) hS.2.2 d_TileForge_count_63
  by_cases s_1_2 : wt = 2
  · refine cs_tin (k := 2) (tgt := 64) hx hb d_TileForge_count_1 s_1_2 (by decide) (by decide) rfl (by decide) ?_
    refine lv_aload_n hx hb d_TileForge_count_64 rfl (lv_at hl 0 rfl) ?_
    refine va_get (D := D) (ci := 8) (v := .int ibc) (C := "TileForge") (T := T_TileForge) (N := 12) hx hb hts (cs_in in_TileForge) hown hK hP 0 rfl rfl 6 (by decide) (hts _ (cs_m mw_492)) (fun _ h9 => h9) rfl d_TileForge_count_65 ?_
    exact W.iret (v := ibc) hx hb hr (fun t ht hW => ⟨⟨ibc, [(f0, .inr (8, [.ref a1, .ref c1, .ref r1, .ref y1, .ref k1, .ref j1, .int ibc, .int ilc, .int igl, .int ibk, .int ifa, .int ibd])), (a1, .inr (5, [.ref a2, .ref a3, .int vz, .int vw, .int vh, .int vk])), (a2, .inl (cI, 144, .inl px)), (a3, .inl (cI, 9, .inl md))], rfl, ⟨(by simp [s_1_0, s_1_1, s_1_2]), (rfl)⟩, by rw [ht]; exact hP, va_K.moved hW.alike hK, hD⟩, hS.F ht⟩) hS.2.2 d_TileForge_count_68
  by_cases s_1_3 : wt = 3
  · refine cs_tin (k := 3) (tgt := 69) hx hb d_TileForge_count_1 s_1_3 (by decide) (by decide) rfl (by decide) ?_
    refine lv_aload_n hx hb d_TileForge_count_69 rfl (lv_at hl 0 rfl) ?_
    refine va_get (D := D) (ci := 8) (v := .int ilc) (C := "TileForge") (T := T_TileForge) (N := 12) hx hb hts (cs_in in_TileForge) hown hK hP 0 rfl rfl 7 (by decide) (hts _ (cs_m mw_494)) (fun _ h9 => h9) rfl d_TileForge_count_70 ?_
    exact W.iret (v := ilc) hx hb hr (fun t ht hW => ⟨⟨ilc, [(f0, .inr (8, [.ref a1, .ref c1, .ref r1, .ref y1, .ref k1, .ref j1, .int ibc, .int ilc, .int igl, .int ibk, .int ifa, .int ibd])), (a1, .inr (5, [.ref a2, .ref a3, .int vz, .int vw, .int vh, .int vk])), (a2, .inl (cI, 144, .inl px)), (a3, .inl (cI, 9, .inl md))], rfl, ⟨(by simp [s_1_0, s_1_1, s_1_2, s_1_3]), (rfl)⟩, by rw [ht]; exact hP, va_K.moved hW.alike hK, hD⟩, hS.F ht⟩) hS.2.2 d_TileForge_count_73
  by_cases s_1_4 : wt = 4
  · refine cs_tin (k := 4) (tgt := 74) hx hb d_TileForge_count_1 s_1_4 (by decide) (by decide) rfl (by decide) ?_
    refine lv_aload_n hx hb d_TileForge_count_74 rfl (lv_at hl 0 rfl) ?_
    refine va_get (D := D) (ci := 8) (v := .int igl) (C := "TileForge") (T := T_TileForge) (N := 12) hx hb hts (cs_in in_TileForge) hown hK hP 0 rfl rfl 8 (by decide) (hts _ (cs_m mw_496)) (fun _ h9 => h9) rfl d_TileForge_count_75 ?_
    exact W.iret (v := igl) hx hb hr (fun t ht hW => ⟨⟨igl, [(f0, .inr (8, [.ref a1, .ref c1, .ref r1, .ref y1, .ref k1, .ref j1, .int ibc, .int ilc, .int igl, .int ibk, .int ifa, .int ibd])), (a1, .inr (5, [.ref a2, .ref a3, .int vz, .int vw, .int vh, .int vk])), (a2, .inl (cI, 144, .inl px)), (a3, .inl (cI, 9, .inl md))], rfl, ⟨(by simp [s_1_0, s_1_1, s_1_2, s_1_3, s_1_4]), (rfl)⟩, by rw [ht]; exact hP, va_K.moved hW.alike hK, hD⟩, hS.F ht⟩) hS.2.2 d_TileForge_count_78
  by_cases s_1_5 : wt = 5
  · refine cs_tin (k := 5) (tgt := 79) hx hb d_TileForge_count_1 s_1_5 (by decide) (by decide) rfl (by decide) ?_
    refine lv_aload_n hx hb d_TileForge_count_79 rfl (lv_at hl 0 rfl) ?_
    refine va_get (D := D) (ci := 8) (v := .int ibk) (C := "TileForge") (T := T_TileForge) (N := 12) hx hb hts (cs_in in_TileForge) hown hK hP 0 rfl rfl 9 (by decide) (hts _ (cs_m mw_533)) (fun _ h9 => h9) rfl d_TileForge_count_80 ?_
    exact W.iret (v := ibk) hx hb hr (fun t ht hW => ⟨⟨ibk, [(f0, .inr (8, [.ref a1, .ref c1, .ref r1, .ref y1, .ref k1, .ref j1, .int ibc, .int ilc, .int igl, .int ibk, .int ifa, .int ibd])), (a1, .inr (5, [.ref a2, .ref a3, .int vz, .int vw, .int vh, .int vk])), (a2, .inl (cI, 144, .inl px)), (a3, .inl (cI, 9, .inl md))], rfl, ⟨(by simp [s_1_0, s_1_1, s_1_2, s_1_3, s_1_4, s_1_5]), (rfl)⟩, by rw [ht]; exact hP, va_K.moved hW.alike hK, hD⟩, hS.F ht⟩) hS.2.2 d_TileForge_count_83
  by_cases s_1_6 : wt = 6
  · refine cs_tin (k := 6) (tgt := 84) hx hb d_TileForge_count_1 s_1_6 (by decide) (by decide) rfl (by decide) ?_
    refine lv_aload_n hx hb d_TileForge_count_84 rfl (lv_at hl 0 rfl) ?_
    refine va_get (D := D) (ci := 8) (v := .int ifa) (C := "TileForge") (T := T_TileForge) (N := 12) hx hb hts (cs_in in_TileForge) hown hK hP 0 rfl rfl 10 (by decide) (hts _ (cs_m mw_534)) (fun _ h9 => h9) rfl d_TileForge_count_85 ?_
    exact W.iret (v := ifa) hx hb hr (fun t ht hW => ⟨⟨ifa, [(f0, .inr (8, [.ref a1, .ref c1, .ref r1, .ref y1, .ref k1, .ref j1, .int ibc, .int ilc, .int igl, .int ibk, .int ifa, .int ibd])), (a1, .inr (5, [.ref a2, .ref a3, .int vz, .int vw, .int vh, .int vk])), (a2, .inl (cI, 144, .inl px)), (a3, .inl (cI, 9, .inl md))], rfl, ⟨(by simp [s_1_0, s_1_1, s_1_2, s_1_3, s_1_4, s_1_5, s_1_6]), (rfl)⟩, by rw [ht]; exact hP, va_K.moved hW.alike hK, hD⟩, hS.F ht⟩) hS.2.2 d_TileForge_count_88
  by_cases s_1_7 : wt = 7
  · refine cs_tin (k := 7) (tgt := 89) hx hb d_TileForge_count_1 s_1_7 (by decide) (by decide) rfl (by decide) ?_
    refine lv_aload_n hx hb d_TileForge_count_89 rfl (lv_at hl 0 rfl) ?_
    refine va_get (D := D) (ci := 8) (v := .int ibd) (C := "TileForge") (T := T_TileForge) (N := 12) hx hb hts (cs_in in_TileForge) hown hK hP 0 rfl rfl 11 (by decide) (hts _ (cs_m mw_535)) (fun _ h9 => h9) rfl d_TileForge_count_90 ?_
    exact W.iret (v := ibd) hx hb hr (fun t ht hW => ⟨⟨ibd, [(f0, .inr (8, [.ref a1, .ref c1, .ref r1, .ref y1, .ref k1, .ref j1, .int ibc, .int ilc, .int igl, .int ibk, .int ifa, .int ibd])), (a1, .inr (5, [.ref a2, .ref a3, .int vz, .int vw, .int vh, .int vk])), (a2, .inl (cI, 144, .inl px)), (a3, .inl (cI, 9, .inl md))], rfl, ⟨(by simp [s_1_0, s_1_1, s_1_2, s_1_3, s_1_4, s_1_5, s_1_6, s_1_7]), (rfl)⟩, by rw [ht]; exact hP, va_K.moved hW.alike hK, hD⟩, hS.F ht⟩) hS.2.2 d_TileForge_count_93
  refine lv_tableOut (tgt := 94) hx hb d_TileForge_count_1 (by have h0 := lv_neT s_1_0 (a := 0) rfl; have h1 := lv_neT s_1_1 (a := 1) rfl; have h2 := lv_neT s_1_2 (a := 2) rfl; have h3 := lv_neT s_1_3 (a := 3) rfl; have h4 := lv_neT s_1_4 (a := 4) rfl; have h5 := lv_neT s_1_5 (a := 5) rfl; have h6 := lv_neT s_1_6 (a := 6) rfl; have h7 := lv_neT s_1_7 (a := 7) rfl; omega) (by decide) ?_
  exact (cs_c8 hwt s_1_0 s_1_1 s_1_2 s_1_3 s_1_4 s_1_5 s_1_6 s_1_7).elim
